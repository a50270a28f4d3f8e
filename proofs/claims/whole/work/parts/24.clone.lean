set_option maxRecDepth 20000 in
theorem w_clL : Cond.methodLink RX5 177 ({ cls := "[I", name := "clone", desc := "()Ljava/lang/Object;" } : Jvm.MethodName) ∈ lw_tbl := t4 (List.mem_of_getElem? (i := 199) rfl)
set_option maxRecDepth 20000 in
theorem w_clS : Cond.sameMethod "[I" "java/lang/Object" "clone" "()Ljava/lang/Object;" ∈ lw_tbl := t4 (List.mem_of_getElem? (i := 200) rfl)
set_option maxRecDepth 20000 in
theorem w_clN : Cond.native ({ cls := "java/lang/Object", name := "clone", desc := "()Ljava/lang/Object;" } : Jvm.MethodName) ∈ lw_tbl := t4 (List.mem_of_getElem? (i := 201) rfl)
set_option maxRecDepth 20000 in
theorem w_clI : Cond.instanceMethod ({ cls := "java/lang/Object", name := "clone", desc := "()Ljava/lang/Object;" } : Jvm.MethodName) ∈ lw_tbl := t4 (List.mem_of_getElem? (i := 202) rfl)
set_option maxRecDepth 20000 in
theorem w_clV : Cond.selects "[I" ({ cls := "[I", name := "clone", desc := "()Ljava/lang/Object;" } : Jvm.MethodName) ({ cls := "java/lang/Object", name := "clone", desc := "()Ljava/lang/Object;" } : Jvm.MethodName) ∈ lw_tbl := t4 (List.mem_of_getElem? (i := 203) rfl)
set_option maxRecDepth 20000 in
theorem w_clC : Cond.castable "[I" "java/lang/Cloneable" ∈ lw_tbl := t4 (List.mem_of_getElem? (i := 204) rfl)
theorem g_clone {l : Launch} {K : gw_K} {X : gw_X} {cc : ByteArray} {own : String} {F Lo MC MS pc : Nat} {L : List (Option Value)} {S : List Value} {h : gw_H} {n kc ks : Nat} {idx a N : Nat} {f : Nat → Int32} (hX : FX l K X cc own F Lo MC MS) (hd : decode cc pc = .ok (.invokevirtual idx, 3)) (hl : Cond.methodLink own idx ⟨"[I", "clone", "()Ljava/lang/Object;"⟩ ∈ lw_tbl) (ho : h a = aI N f) (hF : 1 ≤ F) (hLo : (S.map fun v => v.category).sum + 14 ≤ Lo) (hc1 : kc + 1 ≤ MC) (hc2 : ks + N ≤ MS) (k : GW X (pc + 3) L (.ref n :: S) (hs h n (aI N f)) (n + 1) (kc + 1) (ks + N)) : GW X pc L (.ref a :: S) h n kc ks := by
  obtain ⟨p, l1, e, R, s, m, args, below, meth, c, A, Q, K1, ad0, n0⟩ := X
  obtain ⟨hx, hb, hown, hts, hK, hA, hsp, hz, rfl, rfl, rfl, hst, hlk⟩ := hX
  intro ad H locs ls hR hS ha hn hL hv
  have hav : a < n := gw_hd hv a rfl
  have hat := gw_at (K := K1) (ad := ad) hav ho
  refine va_clone (ty := .int) hx hb hL.1.symm hown (hts _ hl rfl) (hts _ w_clS rfl) (hts _ w_clN rfl) (hts _ w_clI rfl) (hts _ w_clV rfl) (hsp.1 _ w_clC rfl) hK hR.1 hR.2.1 hS hA a 0 hat rfl (va_nm_int (hK.2 0 _ rfl).2) (fun i v hv => ?_) hF (by rw [gw_cats]; exact hLo) hc1 hc2 hd (fun q H1 hK1 hP1 hD1 hS1 => ?_)
  · have hv' : (Array.ofFn (n := N) fun j => Value.int (f j.val))[i]? = some v := hv
    rw [Array.getElem?_ofFn] at hv'
    split at hv'
    · cases hv'; rfl
    · cases hv'
  · exact gw_more k (gw_push (e := aI N f) hR.2.2 trivial rfl hP1 hD1) hS1 ha hn hL (gw_tl hv)
theorem g_castI {l : Launch} {K : gw_K} {X : gw_X} {cc : ByteArray} {own : String} {F Lo MC MS pc : Nat} {L : List (Option Value)} {S : List Value} {h : gw_H} {n kc ks : Nat} {idx a N : Nat} {f : Nat → Int32} (hX : FX l K X cc own F Lo MC MS) (hd : decode cc pc = .ok (.checkcast idx, 3)) (hl : Cond.classLink own idx "[I" ∈ lw_tbl) (ho : h a = aI N f) (k : GW X (pc + 3) L (.ref a :: S) h n kc ks) : GW X pc L (.ref a :: S) h n kc ks := by
  obtain ⟨p, l1, e, R, s, m, args, below, meth, c, A, Q, K1, ad0, n0⟩ := X
  obtain ⟨hx, hb, hown, hts, hK, hA, hsp, hz, rfl, rfl, rfl, hst, hlk⟩ := hX
  intro ad H locs ls hR hS ha hn hL hv
  have hav : a < n := gw_hd hv a rfl
  have hat := gw_at (K := K1) (ad := ad) hav ho
  exact va_castA hx hb hown (hts _ hl rfl) hR.1 a hat (va_nm_int (hK.2 0 _ rfl).2) hd (k ad H locs ls hR hS ha hn hL hv)
