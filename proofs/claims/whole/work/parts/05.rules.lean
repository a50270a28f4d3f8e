def gw_al (ad : Nat → Nat) (L : List (Option Value)) : List (Nat × Value) := (List.range L.length).filterMap fun i => (L[i]?.join).map fun v => (i, gw_V ad v)
theorem gw_al_mem {ad : Nat → Nat} {L : List (Option Value)} {i : Nat} {v : Value} (h : L[i]? = some (some v)) : (i, gw_V ad v) ∈ gw_al ad L := by
  unfold gw_al
  refine List.mem_filterMap.mpr ⟨i, List.mem_range.mpr (List.getElem?_eq_some_iff.mp h).1, ?_⟩
  rw [h]; rfl
theorem gw_al_of {ad : Nat → Nat} {L : List (Option Value)} {q : Nat × Value} (h : q ∈ gw_al ad L) : ∃ v, L[q.1]? = some (some v) ∧ q.2 = gw_V ad v := by
  unfold gw_al at h
  obtain ⟨i, -, hi⟩ := List.mem_filterMap.mp h
  cases hL : L[i]? with
  | none => rw [hL] at hi; cases hi
  | some o =>
    cases o with
    | none => rw [hL] at hi; cases hi
    | some v =>
      rw [hL] at hi
      cases hi
      exact ⟨v, hL, rfl⟩
theorem gw_L.has {ad : Nat → Nat} {n nL : Nat} {ls : Array Slot} {L : List (Option Value)} (h : gw_L ad n nL ls L) : lv_has ls nL (gw_al ad L) := by
  refine ⟨h.1, h.2.1, fun q hq => ?_⟩
  obtain ⟨v, h1, h2⟩ := gw_al_of hq
  rw [h2]
  exact (h.2.2.2 _ _ h1).1
def gw_k (L : List (Option Value)) (i : Nat) : Bool := match i with
  | 0 => true
  | j + 1 => match L[j]? with
    | some (some v) => v.category != 2
    | _ => true
theorem gw_k_of {L : List (Option Value)} {i j : Nat} {v : Value} (h : gw_k L i = true) (hj : j + 1 = i) (hv : L[j]? = some (some v)) : ¬ v.category = 2 := by
  subst hj
  simp only [gw_k, hv] at h
  simpa using h
theorem gw_L.st1 {ad : Nat → Nat} {n nL i : Nat} {ls ls' : Array Slot} {L : List (Option Value)} {v : Value} (h : gw_L ad n nL ls L) (hk : gw_k L i = true) (hok : gw_ok n v)
    (h' : lv_has ls' nL ((i, gw_V ad v) :: (gw_al ad L).filter (fun q => !(q.1 == i) && !(q.1 + 1 == i && q.2.category == 2)))) : gw_L ad n nL ls' (L.set i (some v)) := by
  refine ⟨h'.1, h'.2.1, by rw [List.length_set]; exact h.2.2.1, fun j w hj => ?_⟩
  rw [List.getElem?_set] at hj
  by_cases e : i = j
  · subst e
    rw [if_pos rfl] at hj
    split at hj
    · cases hj
      exact ⟨h'.2.2 _ List.mem_cons_self, hok⟩
    · cases hj
  · rw [if_neg e] at hj
    refine ⟨h'.2.2 (j, gw_V ad w) (List.mem_cons_of_mem _ (List.mem_filter.mpr ⟨gw_al_mem hj, ?_⟩)), (h.2.2.2 _ _ hj).2⟩
    simp only [Bool.and_eq_true, Bool.not_eq_true', beq_eq_false_iff_ne, Bool.and_eq_false_iff, gw_cat]
    refine ⟨fun q => e q.symm, ?_⟩
    by_cases e2 : j + 1 = i
    · exact Or.inr (gw_k_of hk e2 hj)
    · exact Or.inl e2
theorem gw_L.st2 {ad : Nat → Nat} {n nL i : Nat} {ls ls' : Array Slot} {L : List (Option Value)} {v : Value} (h : gw_L ad n nL ls L) (hk : gw_k L i = true) (hok : gw_ok n v)
    (h' : lv_has ls' nL ((i, gw_V ad v) :: (gw_al ad L).filter (fun q => !(q.1 == i) && (!(q.1 == i + 1) && !(q.1 + 1 == i && q.2.category == 2))))) : gw_L ad n nL ls' ((L.set i (some v)).set (i + 1) none) := by
  refine ⟨h'.1, h'.2.1, by rw [List.length_set, List.length_set]; exact h.2.2.1, fun j w hj => ?_⟩
  rw [List.getElem?_set] at hj
  by_cases e1 : i + 1 = j
  · subst e1
    rw [if_pos rfl] at hj
    split at hj <;> cases hj
  · rw [if_neg e1, List.getElem?_set] at hj
    by_cases e : i = j
    · subst e
      rw [if_pos rfl] at hj
      split at hj
      · cases hj
        exact ⟨h'.2.2 _ List.mem_cons_self, hok⟩
      · cases hj
    · rw [if_neg e] at hj
      refine ⟨h'.2.2 (j, gw_V ad w) (List.mem_cons_of_mem _ (List.mem_filter.mpr ⟨gw_al_mem hj, ?_⟩)), (h.2.2.2 _ _ hj).2⟩
      simp only [Bool.and_eq_true, Bool.not_eq_true', beq_eq_false_iff_ne, Bool.and_eq_false_iff, gw_cat]
      refine ⟨fun q => e q.symm, fun q => e1 q.symm, ?_⟩
      by_cases e2 : j + 1 = i
      · exact Or.inr (gw_k_of hk e2 hj)
      · exact Or.inl e2
theorem gw_L.ad {ad ad' : Nat → Nat} {n n' nL : Nat} {ls : Array Slot} {L : List (Option Value)} (h : gw_L ad n nL ls L) (he : ∀ k, k < n → ad' k = ad k) (hn : n ≤ n') : gw_L ad' n' nL ls L :=
  ⟨h.1, h.2.1, h.2.2.1, fun i v hi => by
    obtain ⟨h1, h2⟩ := h.2.2.2 i v hi
    rw [gw_V_ad he h2]
    exact ⟨h1, gw_ok_up hn h2⟩⟩
theorem gw_len {L : List (Option Value)} {i : Nat} {v : Option Value} (h : L[i]? = some v) : i < L.length := (List.getElem?_eq_some_iff.mp h).1
theorem g_iconst {l : Launch} {K : gw_K} {X : gw_X} {cc : ByteArray} {own : String} {F Lo MC MS pc : Nat} {L : List (Option Value)} {S : List Value} {h : gw_H} {n kc ks : Nat} {nn : Int} {v : Int32} (hX : FX l K X cc own F Lo MC MS) (hd : decode cc pc = .ok (.iconst nn, 1)) (hc : Int32.ofInt nn = v) (k : GW X (pc + 1) L (.int v :: S) h n kc ks) : GW X pc L S h n kc ks := by
  obtain ⟨p, l1, e, R, s, m, args, below, meth, c, A, Q, K1, ad0, n0⟩ := X
  obtain ⟨hx, hb, hown, hts, hK, hA, hsp, hz, rfl, rfl, rfl, hst, hlk⟩ := hX
  intro ad H locs ls hR hS ha hn hL hv
  exact lv_iconst hx hb hd hc (k ad H locs ls hR hS ha hn hL (gw_cs (gw_int n v) hv))
theorem g_bipush {l : Launch} {K : gw_K} {X : gw_X} {cc : ByteArray} {own : String} {F Lo MC MS pc : Nat} {L : List (Option Value)} {S : List Value} {h : gw_H} {n kc ks : Nat} {nn : Int} {v : Int32} (hX : FX l K X cc own F Lo MC MS) (hd : decode cc pc = .ok (.bipush nn, 2)) (hc : (Int8.ofInt nn).toInt32 = v) (k : GW X (pc + 2) L (.int v :: S) h n kc ks) : GW X pc L S h n kc ks := by
  obtain ⟨p, l1, e, R, s, m, args, below, meth, c, A, Q, K1, ad0, n0⟩ := X
  obtain ⟨hx, hb, hown, hts, hK, hA, hsp, hz, rfl, rfl, rfl, hst, hlk⟩ := hX
  intro ad H locs ls hR hS ha hn hL hv
  exact lv_bipush hx hb hd hc (k ad H locs ls hR hS ha hn hL (gw_cs (gw_int n v) hv))
theorem g_sipush {l : Launch} {K : gw_K} {X : gw_X} {cc : ByteArray} {own : String} {F Lo MC MS pc : Nat} {L : List (Option Value)} {S : List Value} {h : gw_H} {n kc ks : Nat} {nn : Int} {v : Int32} (hX : FX l K X cc own F Lo MC MS) (hd : decode cc pc = .ok (.sipush nn, 3)) (hc : (Int16.ofInt nn).toInt32 = v) (k : GW X (pc + 3) L (.int v :: S) h n kc ks) : GW X pc L S h n kc ks := by
  obtain ⟨p, l1, e, R, s, m, args, below, meth, c, A, Q, K1, ad0, n0⟩ := X
  obtain ⟨hx, hb, hown, hts, hK, hA, hsp, hz, rfl, rfl, rfl, hst, hlk⟩ := hX
  intro ad H locs ls hR hS ha hn hL hv
  exact lv_sipush hx hb hd hc (k ad H locs ls hR hS ha hn hL (gw_cs (gw_int n v) hv))
theorem g_lconst {l : Launch} {K : gw_K} {X : gw_X} {cc : ByteArray} {own : String} {F Lo MC MS pc : Nat} {L : List (Option Value)} {S : List Value} {h : gw_H} {n kc ks : Nat} {nn : Fin 2} {v : Int64} (hX : FX l K X cc own F Lo MC MS) (hd : decode cc pc = .ok (.lconst nn, 1)) (hc : Int64.ofNat (nn : Nat) = v) (k : GW X (pc + 1) L (.long v :: S) h n kc ks) : GW X pc L S h n kc ks := by
  obtain ⟨p, l1, e, R, s, m, args, below, meth, c, A, Q, K1, ad0, n0⟩ := X
  obtain ⟨hx, hb, hown, hts, hK, hA, hsp, hz, rfl, rfl, rfl, hst, hlk⟩ := hX
  intro ad H locs ls hR hS ha hn hL hv
  exact lv_lconst hx hb hd hc (k ad H locs ls hR hS ha hn hL (gw_cs (gw_long n v) hv))
theorem g_dconst0 {l : Launch} {K : gw_K} {X : gw_X} {cc : ByteArray} {own : String} {F Lo MC MS pc : Nat} {L : List (Option Value)} {S : List Value} {h : gw_H} {n kc ks : Nat}  (hX : FX l K X cc own F Lo MC MS) (hd : decode cc pc = .ok (.dconst 0, 1)) (k : GW X (pc + 1) L (.double 0 :: S) h n kc ks) : GW X pc L S h n kc ks := by
  obtain ⟨p, l1, e, R, s, m, args, below, meth, c, A, Q, K1, ad0, n0⟩ := X
  obtain ⟨hx, hb, hown, hts, hK, hA, hsp, hz, rfl, rfl, rfl, hst, hlk⟩ := hX
  intro ad H locs ls hR hS ha hn hL hv
  exact lv_dconst0 hx hb hd (k ad H locs ls hR hS ha hn hL (gw_cs (gw_dbl n 0) hv))
theorem g_ldc2 {l : Launch} {K : gw_K} {X : gw_X} {cc : ByteArray} {own : String} {F Lo MC MS pc : Nat} {L : List (Option Value)} {S : List Value} {h : gw_H} {n kc ks : Nat} {idx : Nat} {v : Int64} (hX : FX l K X cc own F Lo MC MS) (hd : decode cc pc = .ok (.ldc2_w idx, 3)) (hc : Cond.constantLong own idx v ∈ lw_tbl) (k : GW X (pc + 3) L (.long v :: S) h n kc ks) : GW X pc L S h n kc ks := by
  obtain ⟨p, l1, e, R, s, m, args, below, meth, c, A, Q, K1, ad0, n0⟩ := X
  obtain ⟨hx, hb, hown, hts, hK, hA, hsp, hz, rfl, rfl, rfl, hst, hlk⟩ := hX
  intro ad H locs ls hR hS ha hn hL hv
  exact lv_ldc2 hx hb hown (hts _ hc rfl) hd (k ad H locs ls hR hS ha hn hL (gw_cs (gw_long n v) hv))
theorem g_iload_n {l : Launch} {K : gw_K} {X : gw_X} {cc : ByteArray} {own : String} {F Lo MC MS pc : Nat} {L : List (Option Value)} {S : List Value} {h : gw_H} {n kc ks : Nat} {q : Fin 4} {i : Nat} {x : Int32} (hX : FX l K X cc own F Lo MC MS) (hd : decode cc pc = .ok (.iload_n q, 1)) (hi : (q : Nat) = i) (hl : L[i]? = some (some (.int x))) (k : GW X (pc + 1) L (.int x :: S) h n kc ks) : GW X pc L S h n kc ks := by
  obtain ⟨p, l1, e, R, s, m, args, below, meth, c, A, Q, K1, ad0, n0⟩ := X
  obtain ⟨hx, hb, hown, hts, hK, hA, hsp, hz, rfl, rfl, rfl, hst, hlk⟩ := hX
  intro ad H locs ls hR hS ha hn hL hv
  exact lv_iload_n hx hb hd hi (hL.2.2.2 _ _ hl).1 (k ad H locs ls hR hS ha hn hL (gw_cs (gw_int n x) hv))
theorem g_iload {l : Launch} {K : gw_K} {X : gw_X} {cc : ByteArray} {own : String} {F Lo MC MS pc : Nat} {L : List (Option Value)} {S : List Value} {h : gw_H} {n kc ks : Nat} {i : Nat} {x : Int32} (hX : FX l K X cc own F Lo MC MS) (hd : decode cc pc = .ok (.iload i, 2)) (hl : L[i]? = some (some (.int x))) (k : GW X (pc + 2) L (.int x :: S) h n kc ks) : GW X pc L S h n kc ks := by
  obtain ⟨p, l1, e, R, s, m, args, below, meth, c, A, Q, K1, ad0, n0⟩ := X
  obtain ⟨hx, hb, hown, hts, hK, hA, hsp, hz, rfl, rfl, rfl, hst, hlk⟩ := hX
  intro ad H locs ls hR hS ha hn hL hv
  exact lv_iload hx hb hd (hL.2.2.2 _ _ hl).1 (k ad H locs ls hR hS ha hn hL (gw_cs (gw_int n x) hv))
theorem g_lload_n {l : Launch} {K : gw_K} {X : gw_X} {cc : ByteArray} {own : String} {F Lo MC MS pc : Nat} {L : List (Option Value)} {S : List Value} {h : gw_H} {n kc ks : Nat} {q : Fin 4} {i : Nat} {x : Int64} (hX : FX l K X cc own F Lo MC MS) (hd : decode cc pc = .ok (.lload_n q, 1)) (hi : (q : Nat) = i) (hl : L[i]? = some (some (.long x))) (k : GW X (pc + 1) L (.long x :: S) h n kc ks) : GW X pc L S h n kc ks := by
  obtain ⟨p, l1, e, R, s, m, args, below, meth, c, A, Q, K1, ad0, n0⟩ := X
  obtain ⟨hx, hb, hown, hts, hK, hA, hsp, hz, rfl, rfl, rfl, hst, hlk⟩ := hX
  intro ad H locs ls hR hS ha hn hL hv
  exact lv_lload_n hx hb hd hi (hL.2.2.2 _ _ hl).1 (k ad H locs ls hR hS ha hn hL (gw_cs (gw_long n x) hv))
theorem g_lload {l : Launch} {K : gw_K} {X : gw_X} {cc : ByteArray} {own : String} {F Lo MC MS pc : Nat} {L : List (Option Value)} {S : List Value} {h : gw_H} {n kc ks : Nat} {i : Nat} {x : Int64} (hX : FX l K X cc own F Lo MC MS) (hd : decode cc pc = .ok (.lload i, 2)) (hl : L[i]? = some (some (.long x))) (k : GW X (pc + 2) L (.long x :: S) h n kc ks) : GW X pc L S h n kc ks := by
  obtain ⟨p, l1, e, R, s, m, args, below, meth, c, A, Q, K1, ad0, n0⟩ := X
  obtain ⟨hx, hb, hown, hts, hK, hA, hsp, hz, rfl, rfl, rfl, hst, hlk⟩ := hX
  intro ad H locs ls hR hS ha hn hL hv
  exact lv_lload hx hb hd (hL.2.2.2 _ _ hl).1 (k ad H locs ls hR hS ha hn hL (gw_cs (gw_long n x) hv))
theorem g_aload_n {l : Launch} {K : gw_K} {X : gw_X} {cc : ByteArray} {own : String} {F Lo MC MS pc : Nat} {L : List (Option Value)} {S : List Value} {h : gw_H} {n kc ks : Nat} {q : Fin 4} {i : Nat} {x : Nat} (hX : FX l K X cc own F Lo MC MS) (hd : decode cc pc = .ok (.aload_n q, 1)) (hi : (q : Nat) = i) (hl : L[i]? = some (some (.ref x))) (k : GW X (pc + 1) L (.ref x :: S) h n kc ks) : GW X pc L S h n kc ks := by
  obtain ⟨p, l1, e, R, s, m, args, below, meth, c, A, Q, K1, ad0, n0⟩ := X
  obtain ⟨hx, hb, hown, hts, hK, hA, hsp, hz, rfl, rfl, rfl, hst, hlk⟩ := hX
  intro ad H locs ls hR hS ha hn hL hv
  exact lv_aload_n hx hb hd hi (hL.2.2.2 _ _ hl).1 (k ad H locs ls hR hS ha hn hL (gw_cs (hL.2.2.2 _ _ hl).2 hv))
theorem g_aload {l : Launch} {K : gw_K} {X : gw_X} {cc : ByteArray} {own : String} {F Lo MC MS pc : Nat} {L : List (Option Value)} {S : List Value} {h : gw_H} {n kc ks : Nat} {i : Nat} {x : Nat} (hX : FX l K X cc own F Lo MC MS) (hd : decode cc pc = .ok (.aload i, 2)) (hl : L[i]? = some (some (.ref x))) (k : GW X (pc + 2) L (.ref x :: S) h n kc ks) : GW X pc L S h n kc ks := by
  obtain ⟨p, l1, e, R, s, m, args, below, meth, c, A, Q, K1, ad0, n0⟩ := X
  obtain ⟨hx, hb, hown, hts, hK, hA, hsp, hz, rfl, rfl, rfl, hst, hlk⟩ := hX
  intro ad H locs ls hR hS ha hn hL hv
  exact lv_aload hx hb hd (hL.2.2.2 _ _ hl).1 (k ad H locs ls hR hS ha hn hL (gw_cs (hL.2.2.2 _ _ hl).2 hv))
theorem g_dload_n {l : Launch} {K : gw_K} {X : gw_X} {cc : ByteArray} {own : String} {F Lo MC MS pc : Nat} {L : List (Option Value)} {S : List Value} {h : gw_H} {n kc ks : Nat} {q : Fin 4} {i : Nat} {x : UInt64} (hX : FX l K X cc own F Lo MC MS) (hd : decode cc pc = .ok (.dload_n q, 1)) (hi : (q : Nat) = i) (hl : L[i]? = some (some (.double x))) (k : GW X (pc + 1) L (.double x :: S) h n kc ks) : GW X pc L S h n kc ks := by
  obtain ⟨p, l1, e, R, s, m, args, below, meth, c, A, Q, K1, ad0, n0⟩ := X
  obtain ⟨hx, hb, hown, hts, hK, hA, hsp, hz, rfl, rfl, rfl, hst, hlk⟩ := hX
  intro ad H locs ls hR hS ha hn hL hv
  exact lv_dload_n hx hb hd hi (hL.2.2.2 _ _ hl).1 (k ad H locs ls hR hS ha hn hL (gw_cs (gw_dbl n x) hv))
theorem g_dload {l : Launch} {K : gw_K} {X : gw_X} {cc : ByteArray} {own : String} {F Lo MC MS pc : Nat} {L : List (Option Value)} {S : List Value} {h : gw_H} {n kc ks : Nat} {i : Nat} {x : UInt64} (hX : FX l K X cc own F Lo MC MS) (hd : decode cc pc = .ok (.dload i, 2)) (hl : L[i]? = some (some (.double x))) (k : GW X (pc + 2) L (.double x :: S) h n kc ks) : GW X pc L S h n kc ks := by
  obtain ⟨p, l1, e, R, s, m, args, below, meth, c, A, Q, K1, ad0, n0⟩ := X
  obtain ⟨hx, hb, hown, hts, hK, hA, hsp, hz, rfl, rfl, rfl, hst, hlk⟩ := hX
  intro ad H locs ls hR hS ha hn hL hv
  exact lv_dload hx hb hd (hL.2.2.2 _ _ hl).1 (k ad H locs ls hR hS ha hn hL (gw_cs (gw_dbl n x) hv))
theorem g_istore_n {l : Launch} {K : gw_K} {X : gw_X} {cc : ByteArray} {own : String} {F Lo MC MS pc : Nat} {L : List (Option Value)} {S : List Value} {h : gw_H} {n kc ks : Nat} {q : Fin 4} {i : Nat} {x : Int32} (hX : FX l K X cc own F Lo MC MS) (hd : decode cc pc = .ok (.istore_n q, 1)) (hi : (q : Nat) = i) (hi2 : i < L.length) (hk : gw_k L i = true) (k : GW X (pc + 1) (L.set i (some (.int x))) S h n kc ks) : GW X pc L (.int x :: S) h n kc ks := by
  obtain ⟨p, l1, e, R, s, m, args, below, meth, c, A, Q, K1, ad0, n0⟩ := X
  obtain ⟨hx, hb, hown, hts, hK, hA, hsp, hz, rfl, rfl, rfl, hst, hlk⟩ := hX
  intro ad H locs ls hR hS ha hn hL hv
  exact lv_istore_n hx hb hd hi  hL.has (by rw [← hL.2.2.1]; exact hi2) rfl (fun ls1 hl1 => k ad H locs ls1 hR hS ha hn (hL.st1 hk (gw_hd hv) hl1) (gw_tl hv))
theorem g_istore {l : Launch} {K : gw_K} {X : gw_X} {cc : ByteArray} {own : String} {F Lo MC MS pc : Nat} {L : List (Option Value)} {S : List Value} {h : gw_H} {n kc ks : Nat} {i : Nat} {x : Int32} (hX : FX l K X cc own F Lo MC MS) (hd : decode cc pc = .ok (.istore i, 2)) (hi2 : i < L.length) (hk : gw_k L i = true) (k : GW X (pc + 2) (L.set i (some (.int x))) S h n kc ks) : GW X pc L (.int x :: S) h n kc ks := by
  obtain ⟨p, l1, e, R, s, m, args, below, meth, c, A, Q, K1, ad0, n0⟩ := X
  obtain ⟨hx, hb, hown, hts, hK, hA, hsp, hz, rfl, rfl, rfl, hst, hlk⟩ := hX
  intro ad H locs ls hR hS ha hn hL hv
  exact lv_istore hx hb hd  hL.has (by rw [← hL.2.2.1]; exact hi2) rfl (fun ls1 hl1 => k ad H locs ls1 hR hS ha hn (hL.st1 hk (gw_hd hv) hl1) (gw_tl hv))
theorem g_astore_n {l : Launch} {K : gw_K} {X : gw_X} {cc : ByteArray} {own : String} {F Lo MC MS pc : Nat} {L : List (Option Value)} {S : List Value} {h : gw_H} {n kc ks : Nat} {q : Fin 4} {i : Nat} {x : Nat} (hX : FX l K X cc own F Lo MC MS) (hd : decode cc pc = .ok (.astore_n q, 1)) (hi : (q : Nat) = i) (hi2 : i < L.length) (hk : gw_k L i = true) (k : GW X (pc + 1) (L.set i (some (.ref x))) S h n kc ks) : GW X pc L (.ref x :: S) h n kc ks := by
  obtain ⟨p, l1, e, R, s, m, args, below, meth, c, A, Q, K1, ad0, n0⟩ := X
  obtain ⟨hx, hb, hown, hts, hK, hA, hsp, hz, rfl, rfl, rfl, hst, hlk⟩ := hX
  intro ad H locs ls hR hS ha hn hL hv
  exact lv_astore_n hx hb hd hi  hL.has (by rw [← hL.2.2.1]; exact hi2) rfl (fun ls1 hl1 => k ad H locs ls1 hR hS ha hn (hL.st1 hk (gw_hd hv) hl1) (gw_tl hv))
theorem g_astore {l : Launch} {K : gw_K} {X : gw_X} {cc : ByteArray} {own : String} {F Lo MC MS pc : Nat} {L : List (Option Value)} {S : List Value} {h : gw_H} {n kc ks : Nat} {i : Nat} {x : Nat} (hX : FX l K X cc own F Lo MC MS) (hd : decode cc pc = .ok (.astore i, 2)) (hi2 : i < L.length) (hk : gw_k L i = true) (k : GW X (pc + 2) (L.set i (some (.ref x))) S h n kc ks) : GW X pc L (.ref x :: S) h n kc ks := by
  obtain ⟨p, l1, e, R, s, m, args, below, meth, c, A, Q, K1, ad0, n0⟩ := X
  obtain ⟨hx, hb, hown, hts, hK, hA, hsp, hz, rfl, rfl, rfl, hst, hlk⟩ := hX
  intro ad H locs ls hR hS ha hn hL hv
  exact lv_astore hx hb hd  hL.has (by rw [← hL.2.2.1]; exact hi2) rfl (fun ls1 hl1 => k ad H locs ls1 hR hS ha hn (hL.st1 hk (gw_hd hv) hl1) (gw_tl hv))
theorem g_lstore_n {l : Launch} {K : gw_K} {X : gw_X} {cc : ByteArray} {own : String} {F Lo MC MS pc : Nat} {L : List (Option Value)} {S : List Value} {h : gw_H} {n kc ks : Nat} {q : Fin 4} {i : Nat} {x : Int64} (hX : FX l K X cc own F Lo MC MS) (hd : decode cc pc = .ok (.lstore_n q, 1)) (hi : (q : Nat) = i) (hi2 : i + 1 < L.length) (hk : gw_k L i = true) (k : GW X (pc + 1) ((L.set i (some (.long x))).set (i + 1) none) S h n kc ks) : GW X pc L (.long x :: S) h n kc ks := by
  obtain ⟨p, l1, e, R, s, m, args, below, meth, c, A, Q, K1, ad0, n0⟩ := X
  obtain ⟨hx, hb, hown, hts, hK, hA, hsp, hz, rfl, rfl, rfl, hst, hlk⟩ := hX
  intro ad H locs ls hR hS ha hn hL hv
  exact lv_lstore_n hx hb hd hi  hL.has (by rw [← hL.2.2.1]; exact hi2) rfl (fun ls1 hl1 => k ad H locs ls1 hR hS ha hn (hL.st2 hk (gw_hd hv) hl1) (gw_tl hv))
theorem g_lstore {l : Launch} {K : gw_K} {X : gw_X} {cc : ByteArray} {own : String} {F Lo MC MS pc : Nat} {L : List (Option Value)} {S : List Value} {h : gw_H} {n kc ks : Nat} {i : Nat} {x : Int64} (hX : FX l K X cc own F Lo MC MS) (hd : decode cc pc = .ok (.lstore i, 2)) (hi2 : i + 1 < L.length) (hk : gw_k L i = true) (k : GW X (pc + 2) ((L.set i (some (.long x))).set (i + 1) none) S h n kc ks) : GW X pc L (.long x :: S) h n kc ks := by
  obtain ⟨p, l1, e, R, s, m, args, below, meth, c, A, Q, K1, ad0, n0⟩ := X
  obtain ⟨hx, hb, hown, hts, hK, hA, hsp, hz, rfl, rfl, rfl, hst, hlk⟩ := hX
  intro ad H locs ls hR hS ha hn hL hv
  exact lv_lstore hx hb hd  hL.has (by rw [← hL.2.2.1]; exact hi2) rfl (fun ls1 hl1 => k ad H locs ls1 hR hS ha hn (hL.st2 hk (gw_hd hv) hl1) (gw_tl hv))
theorem g_dstore_n {l : Launch} {K : gw_K} {X : gw_X} {cc : ByteArray} {own : String} {F Lo MC MS pc : Nat} {L : List (Option Value)} {S : List Value} {h : gw_H} {n kc ks : Nat} {q : Fin 4} {i : Nat} {x : UInt64} (hX : FX l K X cc own F Lo MC MS) (hd : decode cc pc = .ok (.dstore_n q, 1)) (hi : (q : Nat) = i) (hi2 : i + 1 < L.length) (hk : gw_k L i = true) (k : GW X (pc + 1) ((L.set i (some (.double x))).set (i + 1) none) S h n kc ks) : GW X pc L (.double x :: S) h n kc ks := by
  obtain ⟨p, l1, e, R, s, m, args, below, meth, c, A, Q, K1, ad0, n0⟩ := X
  obtain ⟨hx, hb, hown, hts, hK, hA, hsp, hz, rfl, rfl, rfl, hst, hlk⟩ := hX
  intro ad H locs ls hR hS ha hn hL hv
  exact lv_dstore_n hx hb hd hi  hL.has (by rw [← hL.2.2.1]; exact hi2) rfl (fun ls1 hl1 => k ad H locs ls1 hR hS ha hn (hL.st2 hk (gw_hd hv) hl1) (gw_tl hv))
theorem g_dstore {l : Launch} {K : gw_K} {X : gw_X} {cc : ByteArray} {own : String} {F Lo MC MS pc : Nat} {L : List (Option Value)} {S : List Value} {h : gw_H} {n kc ks : Nat} {i : Nat} {x : UInt64} (hX : FX l K X cc own F Lo MC MS) (hd : decode cc pc = .ok (.dstore i, 2)) (hi2 : i + 1 < L.length) (hk : gw_k L i = true) (k : GW X (pc + 2) ((L.set i (some (.double x))).set (i + 1) none) S h n kc ks) : GW X pc L (.double x :: S) h n kc ks := by
  obtain ⟨p, l1, e, R, s, m, args, below, meth, c, A, Q, K1, ad0, n0⟩ := X
  obtain ⟨hx, hb, hown, hts, hK, hA, hsp, hz, rfl, rfl, rfl, hst, hlk⟩ := hX
  intro ad H locs ls hR hS ha hn hL hv
  exact lv_dstore hx hb hd  hL.has (by rw [← hL.2.2.1]; exact hi2) rfl (fun ls1 hl1 => k ad H locs ls1 hR hS ha hn (hL.st2 hk (gw_hd hv) hl1) (gw_tl hv))
theorem g_iinc {l : Launch} {K : gw_K} {X : gw_X} {cc : ByteArray} {own : String} {F Lo MC MS pc : Nat} {L : List (Option Value)} {S : List Value} {h : gw_H} {n kc ks : Nat} {i : Nat} {nn : Int} {x v : Int32} (hX : FX l K X cc own F Lo MC MS) (hd : decode cc pc = .ok (.iinc i nn, 3)) (hl : L[i]? = some (some (.int x))) (hk : gw_k L i = true) (hc : x + Int32.ofInt nn = v) (k : GW X (pc + 3) (L.set i (some (.int v))) S h n kc ks) : GW X pc L S h n kc ks := by
  obtain ⟨p, l1, e, R, s, m, args, below, meth, c, A, Q, K1, ad0, n0⟩ := X
  obtain ⟨hx, hb, hown, hts, hK, hA, hsp, hz, rfl, rfl, rfl, hst, hlk⟩ := hX
  intro ad H locs ls hR hS ha hn hL hv
  obtain ⟨k0, hk0⟩ := List.getElem?_of_mem (gw_al_mem (ad := ad) hl)
  exact lv_iinc hx hb hd hL.has hk0 hc (by rw [← hL.2.2.1]; exact gw_len hl) rfl (fun ls1 hl1 => k ad H locs ls1 hR hS ha hn (hL.st1 (v := .int v) hk (gw_int n v) hl1) hv)
theorem g_iadd {l : Launch} {K : gw_K} {X : gw_X} {cc : ByteArray} {own : String} {F Lo MC MS pc : Nat} {L : List (Option Value)} {S : List Value} {h : gw_H} {n kc ks : Nat} {x y : Int32} (hX : FX l K X cc own F Lo MC MS) (hd : decode cc pc = .ok (.iadd, 1)) (k : GW X (pc + 1) L (.int (x + y) :: S) h n kc ks) : GW X pc L (.int y :: .int x :: S) h n kc ks := by
  obtain ⟨p, l1, e, R, s, m, args, below, meth, c, A, Q, K1, ad0, n0⟩ := X
  obtain ⟨hx, hb, hown, hts, hK, hA, hsp, hz, rfl, rfl, rfl, hst, hlk⟩ := hX
  intro ad H locs ls hR hS ha hn hL hv
  exact lv_iadd hx hb hd (k ad H locs ls hR hS ha hn hL (gw_cs (gw_int n _) (gw_tl (gw_tl hv))))
theorem g_isub {l : Launch} {K : gw_K} {X : gw_X} {cc : ByteArray} {own : String} {F Lo MC MS pc : Nat} {L : List (Option Value)} {S : List Value} {h : gw_H} {n kc ks : Nat} {x y : Int32} (hX : FX l K X cc own F Lo MC MS) (hd : decode cc pc = .ok (.isub, 1)) (k : GW X (pc + 1) L (.int (x - y) :: S) h n kc ks) : GW X pc L (.int y :: .int x :: S) h n kc ks := by
  obtain ⟨p, l1, e, R, s, m, args, below, meth, c, A, Q, K1, ad0, n0⟩ := X
  obtain ⟨hx, hb, hown, hts, hK, hA, hsp, hz, rfl, rfl, rfl, hst, hlk⟩ := hX
  intro ad H locs ls hR hS ha hn hL hv
  exact lv_isub hx hb hd (k ad H locs ls hR hS ha hn hL (gw_cs (gw_int n _) (gw_tl (gw_tl hv))))
theorem g_imul {l : Launch} {K : gw_K} {X : gw_X} {cc : ByteArray} {own : String} {F Lo MC MS pc : Nat} {L : List (Option Value)} {S : List Value} {h : gw_H} {n kc ks : Nat} {x y : Int32} (hX : FX l K X cc own F Lo MC MS) (hd : decode cc pc = .ok (.imul, 1)) (k : GW X (pc + 1) L (.int (x * y) :: S) h n kc ks) : GW X pc L (.int y :: .int x :: S) h n kc ks := by
  obtain ⟨p, l1, e, R, s, m, args, below, meth, c, A, Q, K1, ad0, n0⟩ := X
  obtain ⟨hx, hb, hown, hts, hK, hA, hsp, hz, rfl, rfl, rfl, hst, hlk⟩ := hX
  intro ad H locs ls hR hS ha hn hL hv
  exact lv_imul hx hb hd (k ad H locs ls hR hS ha hn hL (gw_cs (gw_int n _) (gw_tl (gw_tl hv))))
theorem g_iand {l : Launch} {K : gw_K} {X : gw_X} {cc : ByteArray} {own : String} {F Lo MC MS pc : Nat} {L : List (Option Value)} {S : List Value} {h : gw_H} {n kc ks : Nat} {x y : Int32} (hX : FX l K X cc own F Lo MC MS) (hd : decode cc pc = .ok (.iand, 1)) (k : GW X (pc + 1) L (.int (x &&& y) :: S) h n kc ks) : GW X pc L (.int y :: .int x :: S) h n kc ks := by
  obtain ⟨p, l1, e, R, s, m, args, below, meth, c, A, Q, K1, ad0, n0⟩ := X
  obtain ⟨hx, hb, hown, hts, hK, hA, hsp, hz, rfl, rfl, rfl, hst, hlk⟩ := hX
  intro ad H locs ls hR hS ha hn hL hv
  exact lv_iand hx hb hd (k ad H locs ls hR hS ha hn hL (gw_cs (gw_int n _) (gw_tl (gw_tl hv))))
theorem g_ior {l : Launch} {K : gw_K} {X : gw_X} {cc : ByteArray} {own : String} {F Lo MC MS pc : Nat} {L : List (Option Value)} {S : List Value} {h : gw_H} {n kc ks : Nat} {x y : Int32} (hX : FX l K X cc own F Lo MC MS) (hd : decode cc pc = .ok (.ior, 1)) (k : GW X (pc + 1) L (.int (x ||| y) :: S) h n kc ks) : GW X pc L (.int y :: .int x :: S) h n kc ks := by
  obtain ⟨p, l1, e, R, s, m, args, below, meth, c, A, Q, K1, ad0, n0⟩ := X
  obtain ⟨hx, hb, hown, hts, hK, hA, hsp, hz, rfl, rfl, rfl, hst, hlk⟩ := hX
  intro ad H locs ls hR hS ha hn hL hv
  exact lv_ior hx hb hd (k ad H locs ls hR hS ha hn hL (gw_cs (gw_int n _) (gw_tl (gw_tl hv))))
theorem g_ladd {l : Launch} {K : gw_K} {X : gw_X} {cc : ByteArray} {own : String} {F Lo MC MS pc : Nat} {L : List (Option Value)} {S : List Value} {h : gw_H} {n kc ks : Nat} {x y : Int64} (hX : FX l K X cc own F Lo MC MS) (hd : decode cc pc = .ok (.ladd, 1)) (k : GW X (pc + 1) L (.long (x + y) :: S) h n kc ks) : GW X pc L (.long y :: .long x :: S) h n kc ks := by
  obtain ⟨p, l1, e, R, s, m, args, below, meth, c, A, Q, K1, ad0, n0⟩ := X
  obtain ⟨hx, hb, hown, hts, hK, hA, hsp, hz, rfl, rfl, rfl, hst, hlk⟩ := hX
  intro ad H locs ls hR hS ha hn hL hv
  exact lv_ladd hx hb hd (k ad H locs ls hR hS ha hn hL (gw_cs (gw_long n _) (gw_tl (gw_tl hv))))
theorem g_lmul {l : Launch} {K : gw_K} {X : gw_X} {cc : ByteArray} {own : String} {F Lo MC MS pc : Nat} {L : List (Option Value)} {S : List Value} {h : gw_H} {n kc ks : Nat} {x y : Int64} (hX : FX l K X cc own F Lo MC MS) (hd : decode cc pc = .ok (.lmul, 1)) (k : GW X (pc + 1) L (.long (x * y) :: S) h n kc ks) : GW X pc L (.long y :: .long x :: S) h n kc ks := by
  obtain ⟨p, l1, e, R, s, m, args, below, meth, c, A, Q, K1, ad0, n0⟩ := X
  obtain ⟨hx, hb, hown, hts, hK, hA, hsp, hz, rfl, rfl, rfl, hst, hlk⟩ := hX
  intro ad H locs ls hR hS ha hn hL hv
  exact lv_lmul hx hb hd (k ad H locs ls hR hS ha hn hL (gw_cs (gw_long n _) (gw_tl (gw_tl hv))))
theorem g_land {l : Launch} {K : gw_K} {X : gw_X} {cc : ByteArray} {own : String} {F Lo MC MS pc : Nat} {L : List (Option Value)} {S : List Value} {h : gw_H} {n kc ks : Nat} {x y : Int64} (hX : FX l K X cc own F Lo MC MS) (hd : decode cc pc = .ok (.land, 1)) (k : GW X (pc + 1) L (.long (x &&& y) :: S) h n kc ks) : GW X pc L (.long y :: .long x :: S) h n kc ks := by
  obtain ⟨p, l1, e, R, s, m, args, below, meth, c, A, Q, K1, ad0, n0⟩ := X
  obtain ⟨hx, hb, hown, hts, hK, hA, hsp, hz, rfl, rfl, rfl, hst, hlk⟩ := hX
  intro ad H locs ls hR hS ha hn hL hv
  exact lv_land hx hb hd (k ad H locs ls hR hS ha hn hL (gw_cs (gw_long n _) (gw_tl (gw_tl hv))))
theorem g_lor {l : Launch} {K : gw_K} {X : gw_X} {cc : ByteArray} {own : String} {F Lo MC MS pc : Nat} {L : List (Option Value)} {S : List Value} {h : gw_H} {n kc ks : Nat} {x y : Int64} (hX : FX l K X cc own F Lo MC MS) (hd : decode cc pc = .ok (.lor, 1)) (k : GW X (pc + 1) L (.long (x ||| y) :: S) h n kc ks) : GW X pc L (.long y :: .long x :: S) h n kc ks := by
  obtain ⟨p, l1, e, R, s, m, args, below, meth, c, A, Q, K1, ad0, n0⟩ := X
  obtain ⟨hx, hb, hown, hts, hK, hA, hsp, hz, rfl, rfl, rfl, hst, hlk⟩ := hX
  intro ad H locs ls hR hS ha hn hL hv
  exact lv_lor hx hb hd (k ad H locs ls hR hS ha hn hL (gw_cs (gw_long n _) (gw_tl (gw_tl hv))))
theorem g_idiv {l : Launch} {K : gw_K} {X : gw_X} {cc : ByteArray} {own : String} {F Lo MC MS pc : Nat} {L : List (Option Value)} {S : List Value} {h : gw_H} {n kc ks : Nat} {x y : Int32} (hX : FX l K X cc own F Lo MC MS) (hd : decode cc pc = .ok (.idiv, 1)) (hne : ¬ y = 0) (k : GW X (pc + 1) L (.int (x / y) :: S) h n kc ks) : GW X pc L (.int y :: .int x :: S) h n kc ks := by
  obtain ⟨p, l1, e, R, s, m, args, below, meth, c, A, Q, K1, ad0, n0⟩ := X
  obtain ⟨hx, hb, hown, hts, hK, hA, hsp, hz, rfl, rfl, rfl, hst, hlk⟩ := hX
  intro ad H locs ls hR hS ha hn hL hv
  exact lv_idiv hx hb hd hne (k ad H locs ls hR hS ha hn hL (gw_cs (gw_int n _) (gw_tl (gw_tl hv))))
theorem g_irem {l : Launch} {K : gw_K} {X : gw_X} {cc : ByteArray} {own : String} {F Lo MC MS pc : Nat} {L : List (Option Value)} {S : List Value} {h : gw_H} {n kc ks : Nat} {x y : Int32} (hX : FX l K X cc own F Lo MC MS) (hd : decode cc pc = .ok (.irem, 1)) (hne : ¬ y = 0) (k : GW X (pc + 1) L (.int (x - x / y * y) :: S) h n kc ks) : GW X pc L (.int y :: .int x :: S) h n kc ks := by
  obtain ⟨p, l1, e, R, s, m, args, below, meth, c, A, Q, K1, ad0, n0⟩ := X
  obtain ⟨hx, hb, hown, hts, hK, hA, hsp, hz, rfl, rfl, rfl, hst, hlk⟩ := hX
  intro ad H locs ls hR hS ha hn hL hv
  exact lv_irem hx hb hd hne (k ad H locs ls hR hS ha hn hL (gw_cs (gw_int n _) (gw_tl (gw_tl hv))))
theorem g_ineg {l : Launch} {K : gw_K} {X : gw_X} {cc : ByteArray} {own : String} {F Lo MC MS pc : Nat} {L : List (Option Value)} {S : List Value} {h : gw_H} {n kc ks : Nat} {x : Int32} (hX : FX l K X cc own F Lo MC MS) (hd : decode cc pc = .ok (.ineg, 1)) (k : GW X (pc + 1) L (.int (-x) :: S) h n kc ks) : GW X pc L (.int x :: S) h n kc ks := by
  obtain ⟨p, l1, e, R, s, m, args, below, meth, c, A, Q, K1, ad0, n0⟩ := X
  obtain ⟨hx, hb, hown, hts, hK, hA, hsp, hz, rfl, rfl, rfl, hst, hlk⟩ := hX
  intro ad H locs ls hR hS ha hn hL hv
  exact lv_ineg hx hb hd (k ad H locs ls hR hS ha hn hL (gw_cs (gw_int n _) (gw_tl hv)))
theorem g_i2l {l : Launch} {K : gw_K} {X : gw_X} {cc : ByteArray} {own : String} {F Lo MC MS pc : Nat} {L : List (Option Value)} {S : List Value} {h : gw_H} {n kc ks : Nat} {x : Int32} (hX : FX l K X cc own F Lo MC MS) (hd : decode cc pc = .ok (.i2l, 1)) (k : GW X (pc + 1) L (.long x.toInt64 :: S) h n kc ks) : GW X pc L (.int x :: S) h n kc ks := by
  obtain ⟨p, l1, e, R, s, m, args, below, meth, c, A, Q, K1, ad0, n0⟩ := X
  obtain ⟨hx, hb, hown, hts, hK, hA, hsp, hz, rfl, rfl, rfl, hst, hlk⟩ := hX
  intro ad H locs ls hR hS ha hn hL hv
  exact lv_i2l hx hb hd rfl (k ad H locs ls hR hS ha hn hL (gw_cs (gw_long n _) (gw_tl hv)))
theorem g_lcmp {l : Launch} {K : gw_K} {X : gw_X} {cc : ByteArray} {own : String} {F Lo MC MS pc : Nat} {L : List (Option Value)} {S : List Value} {h : gw_H} {n kc ks : Nat} {x y : Int64} (hX : FX l K X cc own F Lo MC MS) (hd : decode cc pc = .ok (.lcmp, 1)) (k : GW X (pc + 1) L (.int (lg_cmp x y) :: S) h n kc ks) : GW X pc L (.long y :: .long x :: S) h n kc ks := by
  obtain ⟨p, l1, e, R, s, m, args, below, meth, c, A, Q, K1, ad0, n0⟩ := X
  obtain ⟨hx, hb, hown, hts, hK, hA, hsp, hz, rfl, rfl, rfl, hst, hlk⟩ := hX
  intro ad H locs ls hR hS ha hn hL hv
  exact W.lcmp hx hb hd (k ad H locs ls hR hS ha hn hL (gw_cs (gw_int n _) (gw_tl (gw_tl hv))))
theorem g_dcmp {l : Launch} {K : gw_K} {X : gw_X} {cc : ByteArray} {own : String} {F Lo MC MS pc : Nat} {L : List (Option Value)} {S : List Value} {h : gw_H} {n kc ks : Nat} {x y : UInt64} {op : CmpOp} (hX : FX l K X cc own F Lo MC MS) (hd : decode cc pc = .ok (.dcmp op, 1)) (k : GW X (pc + 1) L (.int (Op.cmpValue (FP.dcmp x y) op) :: S) h n kc ks) : GW X pc L (.double y :: .double x :: S) h n kc ks := by
  obtain ⟨p, l1, e, R, s, m, args, below, meth, c, A, Q, K1, ad0, n0⟩ := X
  obtain ⟨hx, hb, hown, hts, hK, hA, hsp, hz, rfl, rfl, rfl, hst, hlk⟩ := hX
  intro ad H locs ls hR hS ha hn hL hv
  exact lv_dcmp hx hb hd (k ad H locs ls hR hS ha hn hL (gw_cs (gw_int n _) (gw_tl (gw_tl hv))))
theorem g_icmp_eq {l : Launch} {K : gw_K} {X : gw_X} {cc : ByteArray} {own : String} {F Lo MC MS pc : Nat} {L : List (Option Value)} {S : List Value} {h : gw_H} {n kc ks : Nat} {x y : Int32} {off : Int} {tgt : Nat} (hX : FX l K X cc own F Lo MC MS) (hd : decode cc pc = .ok (.if_icmp .eq off, 3)) (ht : (pc : Int) + off = (tgt : Int)) (kt : x = y → GW X tgt L S h n kc ks) (kf : ¬ x = y → GW X (pc + 3) L S h n kc ks) : GW X pc L (.int y :: .int x :: S) h n kc ks := by
  obtain ⟨p, l1, e, R, s, m, args, below, meth, c, A, Q, K1, ad0, n0⟩ := X
  obtain ⟨hx, hb, hown, hts, hK, hA, hsp, hz, rfl, rfl, rfl, hst, hlk⟩ := hX
  intro ad H locs ls hR hS ha hn hL hv
  exact lv_icmp_eq hx hb hd ht (fun q => kt q ad H locs ls hR hS ha hn hL (gw_tl (gw_tl hv))) (fun q => kf q ad H locs ls hR hS ha hn hL (gw_tl (gw_tl hv)))
theorem g_if_eq {l : Launch} {K : gw_K} {X : gw_X} {cc : ByteArray} {own : String} {F Lo MC MS pc : Nat} {L : List (Option Value)} {S : List Value} {h : gw_H} {n kc ks : Nat} {x : Int32} {off : Int} {tgt : Nat} (hX : FX l K X cc own F Lo MC MS) (hd : decode cc pc = .ok (.ifCond .eq off, 3)) (ht : (pc : Int) + off = (tgt : Int)) (kt : x = 0 → GW X tgt L S h n kc ks) (kf : ¬ x = 0 → GW X (pc + 3) L S h n kc ks) : GW X pc L (.int x :: S) h n kc ks := by
  obtain ⟨p, l1, e, R, s, m, args, below, meth, c, A, Q, K1, ad0, n0⟩ := X
  obtain ⟨hx, hb, hown, hts, hK, hA, hsp, hz, rfl, rfl, rfl, hst, hlk⟩ := hX
  intro ad H locs ls hR hS ha hn hL hv
  exact lv_if_eq hx hb hd ht (fun q => kt q ad H locs ls hR hS ha hn hL (gw_tl hv)) (fun q => kf q ad H locs ls hR hS ha hn hL (gw_tl hv))
theorem g_icmp_ne {l : Launch} {K : gw_K} {X : gw_X} {cc : ByteArray} {own : String} {F Lo MC MS pc : Nat} {L : List (Option Value)} {S : List Value} {h : gw_H} {n kc ks : Nat} {x y : Int32} {off : Int} {tgt : Nat} (hX : FX l K X cc own F Lo MC MS) (hd : decode cc pc = .ok (.if_icmp .ne off, 3)) (ht : (pc : Int) + off = (tgt : Int)) (kt : ¬ x = y → GW X tgt L S h n kc ks) (kf : x = y → GW X (pc + 3) L S h n kc ks) : GW X pc L (.int y :: .int x :: S) h n kc ks := by
  obtain ⟨p, l1, e, R, s, m, args, below, meth, c, A, Q, K1, ad0, n0⟩ := X
  obtain ⟨hx, hb, hown, hts, hK, hA, hsp, hz, rfl, rfl, rfl, hst, hlk⟩ := hX
  intro ad H locs ls hR hS ha hn hL hv
  exact lv_icmp_ne hx hb hd ht (fun q => kt q ad H locs ls hR hS ha hn hL (gw_tl (gw_tl hv))) (fun q => kf q ad H locs ls hR hS ha hn hL (gw_tl (gw_tl hv)))
theorem g_if_ne {l : Launch} {K : gw_K} {X : gw_X} {cc : ByteArray} {own : String} {F Lo MC MS pc : Nat} {L : List (Option Value)} {S : List Value} {h : gw_H} {n kc ks : Nat} {x : Int32} {off : Int} {tgt : Nat} (hX : FX l K X cc own F Lo MC MS) (hd : decode cc pc = .ok (.ifCond .ne off, 3)) (ht : (pc : Int) + off = (tgt : Int)) (kt : ¬ x = 0 → GW X tgt L S h n kc ks) (kf : x = 0 → GW X (pc + 3) L S h n kc ks) : GW X pc L (.int x :: S) h n kc ks := by
  obtain ⟨p, l1, e, R, s, m, args, below, meth, c, A, Q, K1, ad0, n0⟩ := X
  obtain ⟨hx, hb, hown, hts, hK, hA, hsp, hz, rfl, rfl, rfl, hst, hlk⟩ := hX
  intro ad H locs ls hR hS ha hn hL hv
  exact lv_if_ne hx hb hd ht (fun q => kt q ad H locs ls hR hS ha hn hL (gw_tl hv)) (fun q => kf q ad H locs ls hR hS ha hn hL (gw_tl hv))
theorem g_icmp_lt {l : Launch} {K : gw_K} {X : gw_X} {cc : ByteArray} {own : String} {F Lo MC MS pc : Nat} {L : List (Option Value)} {S : List Value} {h : gw_H} {n kc ks : Nat} {x y : Int32} {off : Int} {tgt : Nat} (hX : FX l K X cc own F Lo MC MS) (hd : decode cc pc = .ok (.if_icmp .lt off, 3)) (ht : (pc : Int) + off = (tgt : Int)) (kt : x < y → GW X tgt L S h n kc ks) (kf : ¬ x < y → GW X (pc + 3) L S h n kc ks) : GW X pc L (.int y :: .int x :: S) h n kc ks := by
  obtain ⟨p, l1, e, R, s, m, args, below, meth, c, A, Q, K1, ad0, n0⟩ := X
  obtain ⟨hx, hb, hown, hts, hK, hA, hsp, hz, rfl, rfl, rfl, hst, hlk⟩ := hX
  intro ad H locs ls hR hS ha hn hL hv
  exact lv_icmp_lt hx hb hd ht (fun q => kt q ad H locs ls hR hS ha hn hL (gw_tl (gw_tl hv))) (fun q => kf q ad H locs ls hR hS ha hn hL (gw_tl (gw_tl hv)))
theorem g_if_lt {l : Launch} {K : gw_K} {X : gw_X} {cc : ByteArray} {own : String} {F Lo MC MS pc : Nat} {L : List (Option Value)} {S : List Value} {h : gw_H} {n kc ks : Nat} {x : Int32} {off : Int} {tgt : Nat} (hX : FX l K X cc own F Lo MC MS) (hd : decode cc pc = .ok (.ifCond .lt off, 3)) (ht : (pc : Int) + off = (tgt : Int)) (kt : x < 0 → GW X tgt L S h n kc ks) (kf : ¬ x < 0 → GW X (pc + 3) L S h n kc ks) : GW X pc L (.int x :: S) h n kc ks := by
  obtain ⟨p, l1, e, R, s, m, args, below, meth, c, A, Q, K1, ad0, n0⟩ := X
  obtain ⟨hx, hb, hown, hts, hK, hA, hsp, hz, rfl, rfl, rfl, hst, hlk⟩ := hX
  intro ad H locs ls hR hS ha hn hL hv
  exact lv_if_lt hx hb hd ht (fun q => kt q ad H locs ls hR hS ha hn hL (gw_tl hv)) (fun q => kf q ad H locs ls hR hS ha hn hL (gw_tl hv))
theorem g_icmp_ge {l : Launch} {K : gw_K} {X : gw_X} {cc : ByteArray} {own : String} {F Lo MC MS pc : Nat} {L : List (Option Value)} {S : List Value} {h : gw_H} {n kc ks : Nat} {x y : Int32} {off : Int} {tgt : Nat} (hX : FX l K X cc own F Lo MC MS) (hd : decode cc pc = .ok (.if_icmp .ge off, 3)) (ht : (pc : Int) + off = (tgt : Int)) (kt : y ≤ x → GW X tgt L S h n kc ks) (kf : ¬ y ≤ x → GW X (pc + 3) L S h n kc ks) : GW X pc L (.int y :: .int x :: S) h n kc ks := by
  obtain ⟨p, l1, e, R, s, m, args, below, meth, c, A, Q, K1, ad0, n0⟩ := X
  obtain ⟨hx, hb, hown, hts, hK, hA, hsp, hz, rfl, rfl, rfl, hst, hlk⟩ := hX
  intro ad H locs ls hR hS ha hn hL hv
  exact lv_icmp_ge hx hb hd ht (fun q => kt q ad H locs ls hR hS ha hn hL (gw_tl (gw_tl hv))) (fun q => kf q ad H locs ls hR hS ha hn hL (gw_tl (gw_tl hv)))
theorem g_if_ge {l : Launch} {K : gw_K} {X : gw_X} {cc : ByteArray} {own : String} {F Lo MC MS pc : Nat} {L : List (Option Value)} {S : List Value} {h : gw_H} {n kc ks : Nat} {x : Int32} {off : Int} {tgt : Nat} (hX : FX l K X cc own F Lo MC MS) (hd : decode cc pc = .ok (.ifCond .ge off, 3)) (ht : (pc : Int) + off = (tgt : Int)) (kt : 0 ≤ x → GW X tgt L S h n kc ks) (kf : ¬ 0 ≤ x → GW X (pc + 3) L S h n kc ks) : GW X pc L (.int x :: S) h n kc ks := by
  obtain ⟨p, l1, e, R, s, m, args, below, meth, c, A, Q, K1, ad0, n0⟩ := X
  obtain ⟨hx, hb, hown, hts, hK, hA, hsp, hz, rfl, rfl, rfl, hst, hlk⟩ := hX
  intro ad H locs ls hR hS ha hn hL hv
  exact lv_if_ge hx hb hd ht (fun q => kt q ad H locs ls hR hS ha hn hL (gw_tl hv)) (fun q => kf q ad H locs ls hR hS ha hn hL (gw_tl hv))
theorem g_icmp_gt {l : Launch} {K : gw_K} {X : gw_X} {cc : ByteArray} {own : String} {F Lo MC MS pc : Nat} {L : List (Option Value)} {S : List Value} {h : gw_H} {n kc ks : Nat} {x y : Int32} {off : Int} {tgt : Nat} (hX : FX l K X cc own F Lo MC MS) (hd : decode cc pc = .ok (.if_icmp .gt off, 3)) (ht : (pc : Int) + off = (tgt : Int)) (kt : y < x → GW X tgt L S h n kc ks) (kf : ¬ y < x → GW X (pc + 3) L S h n kc ks) : GW X pc L (.int y :: .int x :: S) h n kc ks := by
  obtain ⟨p, l1, e, R, s, m, args, below, meth, c, A, Q, K1, ad0, n0⟩ := X
  obtain ⟨hx, hb, hown, hts, hK, hA, hsp, hz, rfl, rfl, rfl, hst, hlk⟩ := hX
  intro ad H locs ls hR hS ha hn hL hv
  exact lv_icmp_gt hx hb hd ht (fun q => kt q ad H locs ls hR hS ha hn hL (gw_tl (gw_tl hv))) (fun q => kf q ad H locs ls hR hS ha hn hL (gw_tl (gw_tl hv)))
theorem g_if_gt {l : Launch} {K : gw_K} {X : gw_X} {cc : ByteArray} {own : String} {F Lo MC MS pc : Nat} {L : List (Option Value)} {S : List Value} {h : gw_H} {n kc ks : Nat} {x : Int32} {off : Int} {tgt : Nat} (hX : FX l K X cc own F Lo MC MS) (hd : decode cc pc = .ok (.ifCond .gt off, 3)) (ht : (pc : Int) + off = (tgt : Int)) (kt : 0 < x → GW X tgt L S h n kc ks) (kf : ¬ 0 < x → GW X (pc + 3) L S h n kc ks) : GW X pc L (.int x :: S) h n kc ks := by
  obtain ⟨p, l1, e, R, s, m, args, below, meth, c, A, Q, K1, ad0, n0⟩ := X
  obtain ⟨hx, hb, hown, hts, hK, hA, hsp, hz, rfl, rfl, rfl, hst, hlk⟩ := hX
  intro ad H locs ls hR hS ha hn hL hv
  exact lv_if_gt hx hb hd ht (fun q => kt q ad H locs ls hR hS ha hn hL (gw_tl hv)) (fun q => kf q ad H locs ls hR hS ha hn hL (gw_tl hv))
theorem g_icmp_le {l : Launch} {K : gw_K} {X : gw_X} {cc : ByteArray} {own : String} {F Lo MC MS pc : Nat} {L : List (Option Value)} {S : List Value} {h : gw_H} {n kc ks : Nat} {x y : Int32} {off : Int} {tgt : Nat} (hX : FX l K X cc own F Lo MC MS) (hd : decode cc pc = .ok (.if_icmp .le off, 3)) (ht : (pc : Int) + off = (tgt : Int)) (kt : x ≤ y → GW X tgt L S h n kc ks) (kf : ¬ x ≤ y → GW X (pc + 3) L S h n kc ks) : GW X pc L (.int y :: .int x :: S) h n kc ks := by
  obtain ⟨p, l1, e, R, s, m, args, below, meth, c, A, Q, K1, ad0, n0⟩ := X
  obtain ⟨hx, hb, hown, hts, hK, hA, hsp, hz, rfl, rfl, rfl, hst, hlk⟩ := hX
  intro ad H locs ls hR hS ha hn hL hv
  exact lv_icmp_le hx hb hd ht (fun q => kt q ad H locs ls hR hS ha hn hL (gw_tl (gw_tl hv))) (fun q => kf q ad H locs ls hR hS ha hn hL (gw_tl (gw_tl hv)))
theorem g_if_le {l : Launch} {K : gw_K} {X : gw_X} {cc : ByteArray} {own : String} {F Lo MC MS pc : Nat} {L : List (Option Value)} {S : List Value} {h : gw_H} {n kc ks : Nat} {x : Int32} {off : Int} {tgt : Nat} (hX : FX l K X cc own F Lo MC MS) (hd : decode cc pc = .ok (.ifCond .le off, 3)) (ht : (pc : Int) + off = (tgt : Int)) (kt : x ≤ 0 → GW X tgt L S h n kc ks) (kf : ¬ x ≤ 0 → GW X (pc + 3) L S h n kc ks) : GW X pc L (.int x :: S) h n kc ks := by
  obtain ⟨p, l1, e, R, s, m, args, below, meth, c, A, Q, K1, ad0, n0⟩ := X
  obtain ⟨hx, hb, hown, hts, hK, hA, hsp, hz, rfl, rfl, rfl, hst, hlk⟩ := hX
  intro ad H locs ls hR hS ha hn hL hv
  exact lv_if_le hx hb hd ht (fun q => kt q ad H locs ls hR hS ha hn hL (gw_tl hv)) (fun q => kf q ad H locs ls hR hS ha hn hL (gw_tl hv))
theorem g_goto {l : Launch} {K : gw_K} {X : gw_X} {cc : ByteArray} {own : String} {F Lo MC MS pc : Nat} {L : List (Option Value)} {S : List Value} {h : gw_H} {n kc ks : Nat} {off : Int} {tgt : Nat} (hX : FX l K X cc own F Lo MC MS) (hd : decode cc pc = .ok (.goto off, 3)) (ht : (pc : Int) + off = (tgt : Int)) (k : GW X tgt L S h n kc ks) : GW X pc L S h n kc ks := by
  obtain ⟨p, l1, e, R, s, m, args, below, meth, c, A, Q, K1, ad0, n0⟩ := X
  obtain ⟨hx, hb, hown, hts, hK, hA, hsp, hz, rfl, rfl, rfl, hst, hlk⟩ := hX
  intro ad H locs ls hR hS ha hn hL hv
  exact lv_goto hx hb hd ht (k ad H locs ls hR hS ha hn hL hv)
theorem g_tableIn {l : Launch} {K : gw_K} {X : gw_X} {cc : ByteArray} {own : String} {F Lo MC MS pc : Nat} {L : List (Option Value)} {S : List Value} {h : gw_H} {n kc ks : Nat} {dflt lo hi : Int} {offs : Array Int} {len : Nat} {x : Int32} {off : Int} {tgt : Nat} (hX : FX l K X cc own F Lo MC MS) (hd : decode cc pc = .ok (.tableswitch dflt lo hi offs, len)) (h1 : ¬ x.toInt < lo) (h2 : ¬ hi < x.toInt) (ho : offs[(x.toInt - lo).toNat]? = some off) (ht : (pc : Int) + off = (tgt : Int)) (k : GW X tgt L S h n kc ks) : GW X pc L (.int x :: S) h n kc ks := by
  obtain ⟨p, l1, e, R, s, m, args, below, meth, c, A, Q, K1, ad0, n0⟩ := X
  obtain ⟨hx, hb, hown, hts, hK, hA, hsp, hz, rfl, rfl, rfl, hst, hlk⟩ := hX
  intro ad H locs ls hR hS ha hn hL hv
  exact lv_tableIn hx hb hd h1 h2 ho ht (k ad H locs ls hR hS ha hn hL (gw_tl hv))
theorem g_tableOut {l : Launch} {K : gw_K} {X : gw_X} {cc : ByteArray} {own : String} {F Lo MC MS pc : Nat} {L : List (Option Value)} {S : List Value} {h : gw_H} {n kc ks : Nat} {dflt lo hi : Int} {offs : Array Int} {len : Nat} {x : Int32} {tgt : Nat} (hX : FX l K X cc own F Lo MC MS) (hd : decode cc pc = .ok (.tableswitch dflt lo hi offs, len)) (ho : x.toInt < lo ∨ hi < x.toInt) (ht : (pc : Int) + dflt = (tgt : Int)) (k : GW X tgt L S h n kc ks) : GW X pc L (.int x :: S) h n kc ks := by
  obtain ⟨p, l1, e, R, s, m, args, below, meth, c, A, Q, K1, ad0, n0⟩ := X
  obtain ⟨hx, hb, hown, hts, hK, hA, hsp, hz, rfl, rfl, rfl, hst, hlk⟩ := hX
  intro ad H locs ls hR hS ha hn hL hv
  exact lv_tableOut hx hb hd ho ht (k ad H locs ls hR hS ha hn hL (gw_tl hv))
theorem g_ishl {l : Launch} {K : gw_K} {X : gw_X} {cc : ByteArray} {own : String} {F Lo MC MS pc : Nat} {L : List (Option Value)} {S : List Value} {h : gw_H} {n kc ks : Nat} {x y : Int32} (hX : FX l K X cc own F Lo MC MS) (hd : decode cc pc = .ok (.ishl, 1)) (k : GW X (pc + 1) L (.int (x <<< (y &&& 31)) :: S) h n kc ks) : GW X pc L (.int y :: .int x :: S) h n kc ks := by
  obtain ⟨p, l1, e, R, s, m, args, below, meth, c, A, Q, K1, ad0, n0⟩ := X
  obtain ⟨hx, hb, hown, hts, hK, hA, hsp, hz, rfl, rfl, rfl, hst, hlk⟩ := hX
  intro ad H locs ls hR hS ha hn hL hv
  exact lv_ishl hx hb hd (k ad H locs ls hR hS ha hn hL (gw_cs (gw_int n _) (gw_tl (gw_tl hv))))
theorem g_ishr {l : Launch} {K : gw_K} {X : gw_X} {cc : ByteArray} {own : String} {F Lo MC MS pc : Nat} {L : List (Option Value)} {S : List Value} {h : gw_H} {n kc ks : Nat} {x y : Int32} (hX : FX l K X cc own F Lo MC MS) (hd : decode cc pc = .ok (.ishr, 1)) (k : GW X (pc + 1) L (.int (x >>> (y &&& 31)) :: S) h n kc ks) : GW X pc L (.int y :: .int x :: S) h n kc ks := by
  obtain ⟨p, l1, e, R, s, m, args, below, meth, c, A, Q, K1, ad0, n0⟩ := X
  obtain ⟨hx, hb, hown, hts, hK, hA, hsp, hz, rfl, rfl, rfl, hst, hlk⟩ := hX
  intro ad H locs ls hR hS ha hn hL hv
  exact lv_ishr hx hb hd (k ad H locs ls hR hS ha hn hL (gw_cs (gw_int n _) (gw_tl (gw_tl hv))))
theorem g_lshl {l : Launch} {K : gw_K} {X : gw_X} {cc : ByteArray} {own : String} {F Lo MC MS pc : Nat} {L : List (Option Value)} {S : List Value} {h : gw_H} {n kc ks : Nat} {x : Int64} {y : Int32} (hX : FX l K X cc own F Lo MC MS) (hd : decode cc pc = .ok (.lshl, 1)) (k : GW X (pc + 1) L (.long (x <<< (y.toInt64 &&& 63)) :: S) h n kc ks) : GW X pc L (.int y :: .long x :: S) h n kc ks := by
  obtain ⟨p, l1, e, R, s, m, args, below, meth, c, A, Q, K1, ad0, n0⟩ := X
  obtain ⟨hx, hb, hown, hts, hK, hA, hsp, hz, rfl, rfl, rfl, hst, hlk⟩ := hX
  intro ad H locs ls hR hS ha hn hL hv
  exact lv_lshl hx hb hd rfl (k ad H locs ls hR hS ha hn hL (gw_cs (gw_long n _) (gw_tl (gw_tl hv))))
theorem g_dup {l : Launch} {K : gw_K} {X : gw_X} {cc : ByteArray} {own : String} {F Lo MC MS pc : Nat} {L : List (Option Value)} {S : List Value} {h : gw_H} {n kc ks : Nat} {v : Value} (hX : FX l K X cc own F Lo MC MS) (hd : decode cc pc = .ok (.dup, 1)) (hc : v.category = 1) (k : GW X (pc + 1) L (v :: v :: S) h n kc ks) : GW X pc L (v :: S) h n kc ks := by
  obtain ⟨p, l1, e, R, s, m, args, below, meth, c, A, Q, K1, ad0, n0⟩ := X
  obtain ⟨hx, hb, hown, hts, hK, hA, hsp, hz, rfl, rfl, rfl, hst, hlk⟩ := hX
  intro ad H locs ls hR hS ha hn hL hv
  exact lv_dup hx hb hd (by rw [gw_cat]; exact hc) (k ad H locs ls hR hS ha hn hL (gw_cs (gw_hd hv) hv))
theorem g_dup2 {l : Launch} {K : gw_K} {X : gw_X} {cc : ByteArray} {own : String} {F Lo MC MS pc : Nat} {L : List (Option Value)} {S : List Value} {h : gw_H} {n kc ks : Nat} {v w : Value} (hX : FX l K X cc own F Lo MC MS) (hd : decode cc pc = .ok (.dup2, 1)) (hc : v.category = 1) (hc2 : w.category = 1) (k : GW X (pc + 1) L (v :: w :: v :: w :: S) h n kc ks) : GW X pc L (v :: w :: S) h n kc ks := by
  obtain ⟨p, l1, e, R, s, m, args, below, meth, c, A, Q, K1, ad0, n0⟩ := X
  obtain ⟨hx, hb, hown, hts, hK, hA, hsp, hz, rfl, rfl, rfl, hst, hlk⟩ := hX
  intro ad H locs ls hR hS ha hn hL hv
  exact lv_dup2_11 hx hb hd (by rw [gw_cat]; exact hc) (by rw [gw_cat]; exact hc2) (k ad H locs ls hR hS ha hn hL (gw_cs (gw_hd hv) (gw_cs (gw_hd (gw_tl hv)) hv)))
theorem g_pop {l : Launch} {K : gw_K} {X : gw_X} {cc : ByteArray} {own : String} {F Lo MC MS pc : Nat} {L : List (Option Value)} {S : List Value} {h : gw_H} {n kc ks : Nat} {v : Value} (hX : FX l K X cc own F Lo MC MS) (hd : decode cc pc = .ok (.pop, 1)) (hc : v.category = 1) (k : GW X (pc + 1) L S h n kc ks) : GW X pc L (v :: S) h n kc ks := by
  obtain ⟨p, l1, e, R, s, m, args, below, meth, c, A, Q, K1, ad0, n0⟩ := X
  obtain ⟨hx, hb, hown, hts, hK, hA, hsp, hz, rfl, rfl, rfl, hst, hlk⟩ := hX
  intro ad H locs ls hR hS ha hn hL hv
  exact lv_pop hx hb hd (by rw [gw_cat]; exact hc) (k ad H locs ls hR hS ha hn hL (gw_tl hv))
theorem g_i2d {l : Launch} {K : gw_K} {X : gw_X} {cc : ByteArray} {own : String} {F Lo MC MS pc : Nat} {L : List (Option Value)} {S : List Value} {h : gw_H} {n kc ks : Nat} {x : Int32} (hX : FX l K X cc own F Lo MC MS) (hd : decode cc pc = .ok (.i2d, 1)) (k : GW X (pc + 1) L (.double (FP.i2d x) :: S) h n kc ks) : GW X pc L (.int x :: S) h n kc ks := by
  obtain ⟨p, l1, e, R, s, m, args, below, meth, c, A, Q, K1, ad0, n0⟩ := X
  obtain ⟨hx, hb, hown, hts, hK, hA, hsp, hz, rfl, rfl, rfl, hst, hlk⟩ := hX
  intro ad H locs ls hR hS ha hn hL hv
  exact lv_i2d hx hb hd (k ad H locs ls hR hS ha hn hL (gw_cs (gw_dbl n _) (gw_tl hv)))
theorem g_ddiv {l : Launch} {K : gw_K} {X : gw_X} {cc : ByteArray} {own : String} {F Lo MC MS pc : Nat} {L : List (Option Value)} {S : List Value} {h : gw_H} {n kc ks : Nat} {x y : UInt64} (hX : FX l K X cc own F Lo MC MS) (hd : decode cc pc = .ok (.ddiv, 1)) (hne : vf_n64 (FP.ddiv x y)) (k : GW X (pc + 1) L (.double (FP.ddiv x y) :: S) h n kc ks) : GW X pc L (.double y :: .double x :: S) h n kc ks := by
  obtain ⟨p, l1, e, R, s, m, args, below, meth, c, A, Q, K1, ad0, n0⟩ := X
  obtain ⟨hx, hb, hown, hts, hK, hA, hsp, hz, rfl, rfl, rfl, hst, hlk⟩ := hX
  intro ad H locs ls hR hS ha hn hL hv
  exact lv_ddiv hx hb hd hne (k ad H locs ls hR hS ha hn hL (gw_cs (gw_dbl n _) (gw_tl (gw_tl hv))))
/-- the field of number k of class ci, named by entry idx of own's pool -/
def FL (own : String) (idx ci k : Nat) (ty : FieldType) (fin : Bool) : Prop := ∃ (C : String) (T : u_T) (N : Nat) (ty0 : Nat → FieldType), vwCl[ci]? = some (C, T, N) ∧ k < N ∧ (∀ w ∈ u_ws C T N, w ∈ lw_tbl.filter goodWord) ∧ (T k).1 = C ∧ (∀ k, k < N → parseFieldDescriptor (T k).2.2.1 = some (ty0 k)) ∧ (∀ a, a < N → ∀ b, b < N → a ≠ b → (T a).2.1 ≠ (T b).2.1) ∧ ty0 k = ty ∧ (T k).2.2.2 = fin ∧ (Cond.fieldLink own idx C (T k).2.1 (T k).2.2.1 ∈ lw_tbl ∨ ∃ host, Cond.fieldLinkNest own idx C (T k).2.1 (T k).2.2.1 host ∈ lw_tbl)
def FLo (own : String) (idx ci k : Nat) (ty : FieldType) : Prop := ∃ (C : String) (T : u_T) (N : Nat) (ty0 : Nat → FieldType), vwCl[ci]? = some (C, T, N) ∧ k < N ∧ (∀ w ∈ u_ws C T N, w ∈ lw_tbl.filter goodWord) ∧ (T k).1 = C ∧ (∀ k, k < N → parseFieldDescriptor (T k).2.2.1 = some (ty0 k)) ∧ (∀ a, a < N → ∀ b, b < N → a ≠ b → (T a).2.1 ≠ (T b).2.1) ∧ ty0 k = ty ∧ (T k).2.2.2 = true ∧ Cond.fieldLink own idx C (T k).2.1 (T k).2.2.1 ∈ lw_tbl ∧ C = own
theorem gw_at {K : gw_K} {ad : Nat → Nat} {n a : Nat} {h : gw_H} {e : gw_E} (ha : a < n) (he : h a = e) : (gw_ws K ad n h)[a]? = some (ad a, gw_tr K ad e) := by rw [← he]; exact gw_ws_at ha
theorem gw_oke_fs {n ci : Nat} {h : gw_H} {a : Nat} {fs : List Value} (hok : ∀ k, k < n → gw_oke n (h k)) (ha : a < n) (ho : h a = oB ci fs) : ∀ v ∈ fs, gw_ok n v := by
  have h1 := hok a ha
  rw [ho] at h1
  exact h1
theorem g_getf {l : Launch} {K : gw_K} {X : gw_X} {cc : ByteArray} {own : String} {F Lo MC MS pc : Nat} {L : List (Option Value)} {S : List Value} {h : gw_H} {n kc ks : Nat} {idx ci j a : Nat} {ty : FieldType} {fin : Bool} {fs : List Value} {v : Value} (hX : FX l K X cc own F Lo MC MS) (hd : decode cc pc = .ok (.getfield idx, 3)) (hf : FL own idx ci j ty fin) (ho : h a = oB ci fs) (hv0 : fs[j]? = some v) (k : GW X (pc + 3) L (v :: S) h n kc ks) : GW X pc L (.ref a :: S) h n kc ks := by
  obtain ⟨p, l1, e, R, s, m, args, below, meth, c, A, Q, K1, ad0, n0⟩ := X
  obtain ⟨hx, hb, hown, hts, hK, hA, hsp, hz, rfl, rfl, rfl, hst, hlk⟩ := hX
  intro ad H locs ls hR hS ha hn hL hv
  obtain ⟨C, T, N, ty0, h1, h2, h3, h4, h5, h6, h7, h8, hl⟩ := hf
  have hav : a < n := gw_hd hv a rfl
  have hts' : ∀ w ∈ lw_tbl.filter goodWord, w.before args s = true := fun w hw => hts w (List.mem_filter.mp hw).1 (List.mem_filter.mp hw).2
  have hat := gw_at (K := K1) (ad := ad) hav ho
  have hv1 : (fs.map (gw_V ad))[j]? = some (gw_V ad v) := by rw [List.getElem?_map, hv0]; rfl
  have hvo : gw_ok n v := gw_oke_fs hR.2.2 hav ho v (List.mem_of_getElem? hv0)
  have hsame : ∀ x, s.fieldFound? (T j).1 (T j).2.1 (T j).2.2.1 = some x → s.fieldFound? C (T j).2.1 (T j).2.2.1 = some x := fun x hx => by rw [← h4]; exact hx
  rcases hl with hl | ⟨host, hl⟩
  · exact va_get (ci := ci) hx hb hts' h3 hown hK hR.1 a hat h1 j h2 (hts _ hl rfl) hsame hv1 hd (k ad H locs ls hR hS ha hn hL (gw_cs hvo (gw_tl hv)))
  · exact va_getN (ci := ci) hx hb hts' h3 hown hK hR.1 a hat h1 j h2 ((hsp.1 _ hl rfl).use rfl) hsame hv1 hd (k ad H locs ls hR hS ha hn hL (gw_cs hvo (gw_tl hv)))
theorem gw_R.set {K : gw_K} {ad : Nat → Nat} {n a : Nat} {h : gw_H} {A : Nat → Prop} {H1 : Heap} {e : gw_E} {v : va_E} (hok : ∀ k, k < n → gw_oke n (h k)) (ha : a < n) (he : gw_oke n e) (hv : v = gw_tr K ad e) (hP : va_P K.1 vwCl ((gw_ws K ad n h).set a (ad a, v)) H1) (hD : va_D A ((gw_ws K ad n h).set a (ad a, v))) : gw_R K ad n (hs h a e) A H1 := by
  subst hv
  rw [gw_ws_set ha] at hP hD
  refine ⟨hP, hD, fun k hk => ?_⟩
  by_cases q : k = a
  · subst q; rw [hs_eq]; exact he
  · rw [hs_ne q]; exact hok k hk
theorem gw_set_fs {ad : Nat → Nat} {fs : List Value} {j : Nat} {v : Value} : (fs.map (gw_V ad)).set j (gw_V ad v) = (fs.set j v).map (gw_V ad) := by rw [List.map_set]
theorem g_putI {l : Launch} {K : gw_K} {X : gw_X} {cc : ByteArray} {own : String} {F Lo MC MS pc : Nat} {L : List (Option Value)} {S : List Value} {h : gw_H} {n kc ks : Nat} {idx ci j a : Nat} {fs : List Value} {x : Int32} (hX : FX l K X cc own F Lo MC MS) (hd : decode cc pc = .ok (.putfield idx, 3)) (hf : FL own idx ci j .int false) (ho : h a = oB ci fs) (hj : j < fs.length) (k : GW X (pc + 3) L S (hs h a (oB ci (fs.set j (.int x)))) n kc ks) : GW X pc L (.int x :: .ref a :: S) h n kc ks := by
  obtain ⟨p, l1, e, R, s, m, args, below, meth, c, A, Q, K1, ad0, n0⟩ := X
  obtain ⟨hx, hb, hown, hts, hK, hA, hsp, hz, rfl, rfl, rfl, hst, hlk⟩ := hX
  intro ad H locs ls hR hS ha hn hL hv
  obtain ⟨C, T, N, ty0, h1, h2, h3, h4, h5, h6, h7, h8, hl⟩ := hf
  have hav : a < n := gw_hd (gw_tl hv) a rfl
  have hts' : ∀ w ∈ lw_tbl.filter goodWord, w.before args s = true := fun w hw => hts w (List.mem_filter.mp hw).1 (List.mem_filter.mp hw).2
  have hat := gw_at (K := K1) (ad := ad) hav ho
  have hsame : ∀ x, s.fieldFound? (T j).1 (T j).2.1 (T j).2.2.1 = some x → s.fieldFound? C (T j).2.1 (T j).2.2.1 = some x := fun x hx => by rw [← h4]; exact hx
  have hd2 : parseFieldDescriptor (T j).2.2.1 = some .int := by rw [h5 j h2, h7]
  have hfo := gw_oke_fs hR.2.2 hav ho
  have hoke : gw_oke n (oB ci (fs.set j (.int x))) := fun v hm => by
    rcases List.mem_or_eq_of_mem_set hm with q | q
    · exact hfo v q
    · rw [q]; exact gw_int n x
  have hje : j < (fs.map (gw_V ad)).length := by rw [List.length_map]; exact hj
  have hev : (Sum.inr (ci, (fs.map (gw_V ad)).set j (Value.int x)) : va_E) = gw_tr K1 ad (oB ci (fs.set j (.int x))) := by
    show _ = (Sum.inr (ci, (fs.set j (.int x)).map (gw_V ad)) : va_E)
    rw [← gw_set_fs]; rfl
  rcases hl with hl | ⟨host, hl⟩
  · exact va_put (ci := ci) hx hb hts' h3 ty0 h5 h6 hown hK hR.1 hR.2.1 hS a hat h1 j h2 (hts _ hl rfl) hsame h8 hd2 rfl rfl hje hd (fun H1 locs1 hP1 hD1 hS1 => k ad H1 locs1 ls (gw_R.set hR.2.2 hav hoke hev hP1 hD1) hS1 ha hn hL (gw_tl (gw_tl hv)))
  · exact va_putN (ci := ci) hx hb hts' h3 ty0 h5 h6 hown hK hR.1 hR.2.1 hS a hat h1 j h2 ((hsp.1 _ hl rfl).use rfl) hsame h8 hd2 rfl rfl hje hd (fun H1 locs1 hP1 hD1 hS1 => k ad H1 locs1 ls (gw_R.set hR.2.2 hav hoke hev hP1 hD1) hS1 ha hn hL (gw_tl (gw_tl hv)))
/-- a final field that holds a reference, set in its class's constructor -/
theorem g_putF {l : Launch} {K : gw_K} {X : gw_X} {cc : ByteArray} {own : String} {F Lo MC MS pc : Nat} {L : List (Option Value)} {S : List Value} {h : gw_H} {n kc ks : Nat} {idx ci j a b : Nat} {fs : List Value} {ty : FieldType} {ret : Option FieldType} {Post : Option Value → gw_H → Nat → Prop} {PX : String → gw_H → Nat → Prop} (hX : FX l K X cc own F Lo MC MS) (hr : RX X "<init>" ret Post PX) (hd : decode cc pc = .ok (.putfield idx, 3)) (hf : FLo own idx ci j ty) (hty : ∀ q, narrow ty (.ref q) = .ref q ∧ fits ty (.ref q) = true) (ho : h a = oB ci fs) (hj : j < fs.length) (k : GW X (pc + 3) L S (hs h a (oB ci (fs.set j (.ref b)))) n kc ks) : GW X pc L (.ref b :: .ref a :: S) h n kc ks := by
  obtain ⟨p, l1, e, R, s, m, args, below, meth, c, A, Q, K1, ad0, n0⟩ := X
  obtain ⟨hx, hb, hown, hts, hK, hA, hsp, hz, rfl, rfl, rfl, hst, hlk⟩ := hX
  obtain ⟨hin, -, -, -⟩ := hr
  intro ad H locs ls hR hS ha hn hL hv
  obtain ⟨C, T, N, ty0, h1, h2, h3, h4, h5, h6, h7, h8, hl, hCo⟩ := hf
  have hav : a < n := gw_hd (gw_tl hv) a rfl
  have hts' : ∀ w ∈ lw_tbl.filter goodWord, w.before args s = true := fun w hw => hts w (List.mem_filter.mp hw).1 (List.mem_filter.mp hw).2
  have hat := gw_at (K := K1) (ad := ad) hav ho
  have hsame : ∀ x, s.fieldFound? (T j).1 (T j).2.1 (T j).2.2.1 = some x → s.fieldFound? C (T j).2.1 (T j).2.2.1 = some x := fun x hx => by rw [← h4]; exact hx
  have hd2 : parseFieldDescriptor (T j).2.2.1 = some ty := by rw [h5 j h2, h7]
  have hfo := gw_oke_fs hR.2.2 hav ho
  have hoke : gw_oke n (oB ci (fs.set j (.ref b))) := fun v hm => by
    rcases List.mem_or_eq_of_mem_set hm with q | q
    · exact hfo v q
    · rw [q]; exact gw_hd hv
  have hje : j < (fs.map (gw_V ad)).length := by rw [List.length_map]; exact hj
  have hev : (Sum.inr (ci, (fs.map (gw_V ad)).set j (Value.ref (ad b))) : va_E) = gw_tr K1 ad (oB ci (fs.set j (.ref b))) := by
    show _ = (Sum.inr (ci, (fs.set j (.ref b)).map (gw_V ad)) : va_E)
    rw [← gw_set_fs]; rfl
  exact va_putF (ci := ci) hx hb hts' h3 ty0 h5 h6 hown hK hR.1 hR.2.1 hS a hat h1 j h2 (hts _ hl rfl) hsame h8 hin (h4.trans hCo) hd2 (hty _).1 (hty _).2 hje hd (fun H1 locs1 hP1 hD1 hS1 => k ad H1 locs1 ls (gw_R.set hR.2.2 hav hoke hev hP1 hD1) hS1 ha hn hL (gw_tl (gw_tl hv)))
theorem gw_vpin {i len : Nat} {x : Int32} (hi : i < len) (hx : x = nI i) (hlen : len < 2147483648) : vp_in x len ∧ x.toNatClampNeg = i := by
  subst hx
  exact ⟨vp_in_nI hi hlen, nI_clamp (by omega)⟩
theorem g_iaload {l : Launch} {K : gw_K} {X : gw_X} {cc : ByteArray} {own : String} {F Lo MC MS pc : Nat} {L : List (Option Value)} {S : List Value} {h : gw_H} {n kc ks : Nat} {a len : Nat} {f : Nat → Int32} {ix : Int32} (hX : FX l K X cc own F Lo MC MS) (hd : decode cc pc = .ok (.iaload, 1)) (ho : h a = aI len f) (i : Nat) (hi : i < len) (hix : ix = nI i) (hlen : len < 2147483648) (k : GW X (pc + 1) L (.int (f i) :: S) h n kc ks) : GW X pc L (.int ix :: .ref a :: S) h n kc ks := by
  obtain ⟨p, l1, e, R, s, m, args, below, meth, c, A, Q, K1, ad0, n0⟩ := X
  obtain ⟨hx, hb, hown, hts, hK, hA, hsp, hz, rfl, rfl, rfl, hst, hlk⟩ := hX
  intro ad H locs ls hR hS ha hn hL hv
  have hav : a < n := gw_hd (gw_tl hv) a rfl
  have hat := gw_at (K := K1) (ad := ad) hav ho
  obtain ⟨q1, q2⟩ := gw_vpin hi hix hlen
  refine va_iald hx hb hK hR.1 a 0 hat rfl q1 hd ?_
  rw [q2]
  exact k ad H locs ls hR hS ha hn hL (gw_cs (gw_int n _) (gw_tl (gw_tl hv)))
theorem g_laload {l : Launch} {K : gw_K} {X : gw_X} {cc : ByteArray} {own : String} {F Lo MC MS pc : Nat} {L : List (Option Value)} {S : List Value} {h : gw_H} {n kc ks : Nat} {a len : Nat} {f : Nat → Int64} {ix : Int32} (hX : FX l K X cc own F Lo MC MS) (hd : decode cc pc = .ok (.laload, 1)) (ho : h a = aJ len f) (i : Nat) (hi : i < len) (hix : ix = nI i) (hlen : len < 2147483648) (k : GW X (pc + 1) L (.long (f i) :: S) h n kc ks) : GW X pc L (.int ix :: .ref a :: S) h n kc ks := by
  obtain ⟨p, l1, e, R, s, m, args, below, meth, c, A, Q, K1, ad0, n0⟩ := X
  obtain ⟨hx, hb, hown, hts, hK, hA, hsp, hz, rfl, rfl, rfl, hst, hlk⟩ := hX
  intro ad H locs ls hR hS ha hn hL hv
  have hav : a < n := gw_hd (gw_tl hv) a rfl
  have hat := gw_at (K := K1) (ad := ad) hav ho
  obtain ⟨q1, q2⟩ := gw_vpin hi hix hlen
  refine va_lald hx hb hK hR.1 a 1 hat rfl q1 hd ?_
  rw [q2]
  exact k ad H locs ls hR hS ha hn hL (gw_cs (gw_long n _) (gw_tl (gw_tl hv)))
theorem g_iastore {l : Launch} {K : gw_K} {X : gw_X} {cc : ByteArray} {own : String} {F Lo MC MS pc : Nat} {L : List (Option Value)} {S : List Value} {h : gw_H} {n kc ks : Nat} {a len : Nat} {f : Nat → Int32} {ix : Int32} {x : Int32} (hX : FX l K X cc own F Lo MC MS) (hd : decode cc pc = .ok (.iastore, 1)) (ho : h a = aI len f) (i : Nat) (hi : i < len) (hix : ix = nI i) (hlen : len < 2147483648) (k : GW X (pc + 1) L S (hs h a (aI len (upd f i x))) n kc ks) : GW X pc L (.int x :: .int ix :: .ref a :: S) h n kc ks := by
  obtain ⟨p, l1, e, R, s, m, args, below, meth, c, A, Q, K1, ad0, n0⟩ := X
  obtain ⟨hx, hb, hown, hts, hK, hA, hsp, hz, rfl, rfl, rfl, hst, hlk⟩ := hX
  intro ad H locs ls hR hS ha hn hL hv
  have hav : a < n := gw_hd (gw_tl (gw_tl hv)) a rfl
  have hat := gw_at (K := K1) (ad := ad) hav ho
  obtain ⟨q1, q2⟩ := gw_vpin hi hix hlen
  refine va_iast hx hb hK hR.1 hR.2.1 hS a 0 hat rfl q1 hd (fun H1 locs1 hP1 hD1 hS1 => ?_)
  rw [q2] at hP1 hD1
  exact k ad H1 locs1 ls (gw_R.set (e := aI len (upd f i x)) hR.2.2 hav trivial rfl hP1 hD1) hS1 ha hn hL (gw_tl (gw_tl (gw_tl hv)))
theorem g_lastore {l : Launch} {K : gw_K} {X : gw_X} {cc : ByteArray} {own : String} {F Lo MC MS pc : Nat} {L : List (Option Value)} {S : List Value} {h : gw_H} {n kc ks : Nat} {a len : Nat} {f : Nat → Int64} {ix : Int32} {x : Int64} (hX : FX l K X cc own F Lo MC MS) (hd : decode cc pc = .ok (.lastore, 1)) (ho : h a = aJ len f) (i : Nat) (hi : i < len) (hix : ix = nI i) (hlen : len < 2147483648) (k : GW X (pc + 1) L S (hs h a (aJ len (vp_updL f i x))) n kc ks) : GW X pc L (.long x :: .int ix :: .ref a :: S) h n kc ks := by
  obtain ⟨p, l1, e, R, s, m, args, below, meth, c, A, Q, K1, ad0, n0⟩ := X
  obtain ⟨hx, hb, hown, hts, hK, hA, hsp, hz, rfl, rfl, rfl, hst, hlk⟩ := hX
  intro ad H locs ls hR hS ha hn hL hv
  have hav : a < n := gw_hd (gw_tl (gw_tl hv)) a rfl
  have hat := gw_at (K := K1) (ad := ad) hav ho
  obtain ⟨q1, q2⟩ := gw_vpin hi hix hlen
  refine va_last hx hb hK hR.1 hR.2.1 hS a 1 hat rfl q1 hd (fun H1 locs1 hP1 hD1 hS1 => ?_)
  rw [q2] at hP1 hD1
  exact k ad H1 locs1 ls (gw_R.set (e := aJ len (vp_updL f i x)) hR.2.2 hav trivial rfl hP1 hD1) hS1 ha hn hL (gw_tl (gw_tl (gw_tl hv)))
theorem g_aaload {l : Launch} {K : gw_K} {X : gw_X} {cc : ByteArray} {own : String} {F Lo MC MS pc : Nat} {L : List (Option Value)} {S : List Value} {h : gw_H} {n kc ks : Nat} {a b len : Nat} {f : Nat → Option Nat} {ix : Int32} (hX : FX l K X cc own F Lo MC MS) (hd : decode cc pc = .ok (.aaload, 1)) (ho : h a = aQ len f) (i : Nat) (hi : i < len) (hix : ix = nI i) (hlen : len < 2147483648) (hf : f i = some b) (k : GW X (pc + 1) L (.ref b :: S) h n kc ks) : GW X pc L (.int ix :: .ref a :: S) h n kc ks := by
  obtain ⟨p, l1, e, R, s, m, args, below, meth, c, A, Q, K1, ad0, n0⟩ := X
  obtain ⟨hx, hb, hown, hts, hK, hA, hsp, hz, rfl, rfl, rfl, hst, hlk⟩ := hX
  intro ad H locs ls hR hS ha hn hL hv
  have hav : a < n := gw_hd (gw_tl hv) a rfl
  have hat := gw_at (K := K1) (ad := ad) hav ho
  obtain ⟨q1, q2⟩ := gw_vpin hi hix hlen
  have hbn : b < n := by
    have h1 := hR.2.2 a hav
    rw [ho] at h1
    exact h1 i b hf
  refine va_aldq hx hb hK hR.1 a 2 hat rfl q1 hd ?_
  rw [q2, hf]
  exact k ad H locs ls hR hS ha hn hL (gw_cs (gw_ref hbn) (gw_tl (gw_tl hv)))
theorem g_aastore {l : Launch} {K : gw_K} {X : gw_X} {cc : ByteArray} {own : String} {F Lo MC MS pc : Nat} {L : List (Option Value)} {S : List Value} {h : gw_H} {n kc ks : Nat} {a b len : Nat} {f : Nat → Option Nat} {fs : List Value} {ix : Int32} (hX : FX l K X cc own F Lo MC MS) (hd : decode cc pc = .ok (.aastore, 1)) (ho : h a = aQ len f) (i : Nat) (hi : i < len) (hix : ix = nI i) (hlen : len < 2147483648) (hob : h b = oB 0 fs) (k : GW X (pc + 1) L S (hs h a (aQ len (va_up f i (some b)))) n kc ks) : GW X pc L (.ref b :: .int ix :: .ref a :: S) h n kc ks := by
  obtain ⟨p, l1, e, R, s, m, args, below, meth, c, A, Q, K1, ad0, n0⟩ := X
  obtain ⟨hx, hb, hown, hts, hK, hA, hsp, hz, rfl, rfl, rfl, hst, hlk⟩ := hX
  intro ad H locs ls hR hS ha hn hL hv
  have hav : a < n := gw_hd (gw_tl (gw_tl hv)) a rfl
  have hbv : b < n := gw_hd hv b rfl
  have hat := gw_at (K := K1) (ad := ad) hav ho
  have hbt := gw_at (K := K1) (ad := ad) hbv hob
  obtain ⟨q1, q2⟩ := gw_vpin hi hix hlen
  refine va_astq (r := (RX0, TX0, 7)) hx hb hK hR.1 hR.2.1 hS a 2 b 0 hat rfl hbt rfl q1 hd (fun H1 locs1 hP1 hD1 hS1 => ?_)
  rw [q2] at hP1 hD1
  have hf := hR.2.2 a hav
  rw [ho] at hf
  have e1 : (va_up (fun j => (f j).map ad) i (some (ad b))) = fun j => ((va_up f i (some b)) j).map ad := by
    funext j
    unfold va_up
    split <;> rfl
  rw [e1] at hP1 hD1
  exact k ad H1 locs1 ls (gw_R.set (e := aQ len (va_up f i (some b))) hR.2.2 hav (fun j q hq => by
    unfold va_up at hq
    split at hq
    · cases hq; exact hbv
    · exact hf j q hq) rfl hP1 hD1) hS1 ha hn hL (gw_tl (gw_tl (gw_tl hv)))
theorem g_alen_aI {l : Launch} {K : gw_K} {X : gw_X} {cc : ByteArray} {own : String} {F Lo MC MS pc : Nat} {L : List (Option Value)} {S : List Value} {h : gw_H} {n kc ks : Nat} {a len : Nat} {f : Nat → Int32} (hX : FX l K X cc own F Lo MC MS) (hd : decode cc pc = .ok (.arraylength, 1)) (ho : h a = aI len f) (k : GW X (pc + 1) L (.int (nI len) :: S) h n kc ks) : GW X pc L (.ref a :: S) h n kc ks := by
  obtain ⟨p, l1, e, R, s, m, args, below, meth, c, A, Q, K1, ad0, n0⟩ := X
  obtain ⟨hx, hb, hown, hts, hK, hA, hsp, hz, rfl, rfl, rfl, hst, hlk⟩ := hX
  intro ad H locs ls hR hS ha hn hL hv
  have hav : a < n := gw_hd hv a rfl
  have hat := gw_at (K := K1) (ad := ad) hav ho
  exact va_alen hx hb hK hR.1 a 0 hat rfl rfl hd (k ad H locs ls hR hS ha hn hL (gw_cs (gw_int n _) (gw_tl hv)))
theorem g_alen_aJ {l : Launch} {K : gw_K} {X : gw_X} {cc : ByteArray} {own : String} {F Lo MC MS pc : Nat} {L : List (Option Value)} {S : List Value} {h : gw_H} {n kc ks : Nat} {a len : Nat} {f : Nat → Int64} (hX : FX l K X cc own F Lo MC MS) (hd : decode cc pc = .ok (.arraylength, 1)) (ho : h a = aJ len f) (k : GW X (pc + 1) L (.int (nI len) :: S) h n kc ks) : GW X pc L (.ref a :: S) h n kc ks := by
  obtain ⟨p, l1, e, R, s, m, args, below, meth, c, A, Q, K1, ad0, n0⟩ := X
  obtain ⟨hx, hb, hown, hts, hK, hA, hsp, hz, rfl, rfl, rfl, hst, hlk⟩ := hX
  intro ad H locs ls hR hS ha hn hL hv
  have hav : a < n := gw_hd hv a rfl
  have hat := gw_at (K := K1) (ad := ad) hav ho
  exact va_alen hx hb hK hR.1 a 1 hat rfl rfl hd (k ad H locs ls hR hS ha hn hL (gw_cs (gw_int n _) (gw_tl hv)))
def gw_plain (fs : List Value) : Bool := fs.all fun v => match v with
  | .ref _ => false
  | _ => true
theorem gw_plain_ok {fs : List Value} (h : gw_plain fs = true) (n : Nat) : ∀ v ∈ fs, gw_ok n v := by
  intro v hv k hk
  have h1 := List.all_eq_true.mp h v hv
  subst hk
  simp at h1
theorem gw_plain_map {fs : List Value} (h : gw_plain fs = true) (ad : Nat → Nat) : fs.map (gw_V ad) = fs := by
  have h1 : fs.map (gw_V ad) = fs.map id := List.map_congr_left fun v hv => by
    have h1 := List.all_eq_true.mp h v hv
    cases v with
    | ref k => simp at h1
    | _ => rfl
  rw [h1, List.map_id]
/-- one cell more, at the address q -/
theorem gw_push {K : gw_K} {ad : Nat → Nat} {n q : Nat} {h : gw_H} {A : Nat → Prop} {H1 : Heap} {e : gw_E} {v : va_E} (hok : ∀ k, k < n → gw_oke n (h k)) (he : gw_oke (n + 1) e) (hv : v = gw_tr K (fun j => if j = n then q else ad j) e) (hP : va_P K.1 vwCl (gw_ws K ad n h ++ [(q, v)]) H1) (hD : va_D A (gw_ws K ad n h ++ [(q, v)])) :
    gw_R K (fun j => if j = n then q else ad j) (n + 1) (hs h n e) A H1 := by
  have ha : ∀ k, k < n → (fun j => if j = n then q else ad j) k = ad k := fun k hk => by simp [Nat.ne_of_lt hk]
  have e1 := gw_ws_push (K := K) (ad := ad) (ad' := fun j => if j = n then q else ad j) (e := e) (h := h) ha hok
  subst hv
  simp only [if_pos] at e1
  rw [e1] at hP hD
  refine ⟨hP, hD, fun k hk => ?_⟩
  by_cases q : k = n
  · subst q; rw [hs_eq]; exact he
  · rw [hs_ne q]; exact gw_oke_up (Nat.le_succ n) (hok k (by omega))
/-- the walk goes on with one cell more -/
theorem gw_more {p : Program} {l : Launch} {e : Env} {R : Room} {s : State} {m : MethodId} {args : Array Value} {below : List Frame} {meth : Method} {c : Code} {A : Nat → Prop} {Q : State → Prop} {K : gw_K} {ad0 : Nat → Nat} {n0 pc n q kc ks : Nat} {L : List (Option Value)} {S : List Value} {h : gw_H} {ad : Nat → Nat} {H1 : Heap} {locs : List Loc} {ls : Array Slot}
    (k : GW (p, l, e, R, s, m, args, below, meth, c, A, Q, K, ad0, n0) pc L (.ref n :: S) h (n + 1) kc ks) (hR : gw_R K (fun j => if j = n then q else ad j) (n + 1) h A H1) (hS : va_S A s.heap H1 locs) (ha : ∀ k, k < n0 → ad k = ad0 k) (hn : n0 ≤ n) (hL : gw_L ad n c.maxLocals ls L) (hv : ∀ v ∈ S, gw_ok n v) :
    W p l e R s m args below meth c H1 locs kc ks Q (F0 m pc ls (.ref q :: S.map (gw_V ad))) := by
  have ha1 : ∀ k, k < n → (fun j => if j = n then q else ad j) k = ad k := fun k hk => by simp [Nat.ne_of_lt hk]
  have h1 := k (fun j => if j = n then q else ad j) H1 locs ls hR hS (fun j hj => (ha1 j (by omega)).trans (ha j hj)) (by omega) (hL.ad ha1 (Nat.le_succ n)) (gw_cs (gw_ref (Nat.lt_succ_self n)) (gw_oks_up (Nat.le_succ n) hv))
  have e1 : (.ref n :: S).map (gw_V (fun j => if j = n then q else ad j)) = .ref q :: S.map (gw_V ad) := by
    rw [List.map_cons, gw_map_ad ha1 hv]
    simp [gw_V]
  rw [e1] at h1
  exact h1
/-- class ci by entry idx of own's pool, its fields' first values fs -/
def NL (own : String) (idx ci N : Nat) (fs : List Value) : Prop := ∃ (C : String) (T : u_T) (ty0 : Nat → FieldType), vwCl[ci]? = some (C, T, N) ∧ (∀ w ∈ u_ws C T N, w ∈ lw_tbl.filter goodWord) ∧ (∀ k, k < N → parseFieldDescriptor (T k).2.2.1 = some (ty0 k)) ∧ (∀ j, j < N → defaultValue (ty0 j) = vp_V fs j) ∧ gw_plain fs = true ∧ Cond.classLink own idx C ∈ lw_tbl ∧ Cond.instantiable C N ∈ lw_tbl ∧ Cond.initialized C ∈ lw_tbl
theorem gw_mem {w : Cond} (h : w ∈ lw_tbl) (g : goodWord w = true) : w ∈ lw_tbl.filter goodWord := List.mem_filter.mpr ⟨h, g⟩
theorem g_new {l : Launch} {K : gw_K} {X : gw_X} {cc : ByteArray} {own : String} {F Lo MC MS pc : Nat} {L : List (Option Value)} {S : List Value} {h : gw_H} {n kc ks : Nat} {idx ci N : Nat} {fs : List Value} (hX : FX l K X cc own F Lo MC MS) (hd : decode cc pc = .ok (.new idx, 3)) (hf : NL own idx ci N fs) (hc1 : kc + 1 ≤ MC) (hc2 : ks + N ≤ MS) (k : GW X (pc + 3) L (.ref n :: S) (hs h n (oB ci fs)) (n + 1) (kc + 1) (ks + N)) : GW X pc L S h n kc ks := by
  obtain ⟨p, l1, e, R, s, m, args, below, meth, c, A, Q, K1, ad0, n0⟩ := X
  obtain ⟨hx, hb, hown, hts, hK, hA, hsp, hz, rfl, rfl, rfl, hst, hlk⟩ := hX
  intro ad H locs ls hR hS ha hn hL hv
  obtain ⟨C, T, ty0, h1, h2, h3, h4, h5, h6, h7, h8⟩ := hf
  have hts' : ∀ w ∈ lw_tbl.filter goodWord, w.before args s = true := fun w hw => hts w (List.mem_filter.mp hw).1 (List.mem_filter.mp hw).2
  refine va_new (ci := ci) (fs := fs) hx hb hts' h2 ty0 h3 hown (hts _ h6 rfl) (hts _ h7 rfl) (hts _ h8 rfl) hK hR.1 hR.2.1 hS hA h1 h4 hc1 hc2 hd (fun q H1 hP1 hD1 hS1 => ?_)
  exact gw_more k (gw_push (e := oB ci fs) hR.2.2 (gw_plain_ok h5 _) (by show _ = (Sum.inr (ci, fs.map (gw_V _)) : va_E); rw [gw_plain_map h5]) hP1 hD1) hS1 ha hn hL hv
theorem g_newa_aI {l : Launch} {K : gw_K} {X : gw_X} {cc : ByteArray} {own : String} {F Lo MC MS pc : Nat} {L : List (Option Value)} {S : List Value} {h : gw_H} {n kc ks : Nat} {x : Int32} (hX : FX l K X cc own F Lo MC MS) (hd : decode cc pc = .ok (.newarray .int, 2)) (hw : Cond.arrayClass .int ∈ lw_tbl) (N : Nat) (hN : x = nI N) (hN2 : N < 1000) (hc1 : kc + 1 ≤ MC) (hc2 : ks + N ≤ MS) (k : GW X (pc + 2) L (.ref n :: S) (hs h n (aI N (fun _ => 0))) (n + 1) (kc + 1) (ks + N)) : GW X pc L (.int x :: S) h n kc ks := by
  obtain ⟨p, l1, e, R, s, m, args, below, meth, c, A, Q, K1, ad0, n0⟩ := X
  obtain ⟨hx, hb, hown, hts, hK, hA, hsp, hz, rfl, rfl, rfl, hst, hlk⟩ := hX
  intro ad H locs ls hR hS ha hn hL hv
  subst hN
  refine va_newa (atype := .int) (a0 := (N, .inl (fun _ => 0))) (N' := N) hx hb (hts _ hw rfl) rfl hK hR.1 hR.2.1 hS hA (fun _ => rfl) (nI_pos (by omega)) (nI_clamp (by omega)) (by show N * 4 ≤ _; omega) hc1 hc2 hd (fun q cA H1 hK1 hP1 hD1 hS1 => ?_)
  have hcA : cA = K1.2.1 := by
    have g1 := (hK1.2 3 _ rfl).2
    have g2 := (hK.2 0 _ rfl).2
    exact Option.some.inj (g1.symm.trans g2)
  subst hcA
  exact gw_more k (gw_push (e := aI N (fun _ => 0)) hR.2.2 trivial rfl hP1 hD1) hS1 ha hn hL (gw_tl hv)
theorem g_newa_aJ {l : Launch} {K : gw_K} {X : gw_X} {cc : ByteArray} {own : String} {F Lo MC MS pc : Nat} {L : List (Option Value)} {S : List Value} {h : gw_H} {n kc ks : Nat} {x : Int32} (hX : FX l K X cc own F Lo MC MS) (hd : decode cc pc = .ok (.newarray .long, 2)) (hw : Cond.arrayClass .long ∈ lw_tbl) (N : Nat) (hN : x = nI N) (hN2 : N < 1000) (hc1 : kc + 1 ≤ MC) (hc2 : ks + N ≤ MS) (k : GW X (pc + 2) L (.ref n :: S) (hs h n (aJ N (fun _ => 0))) (n + 1) (kc + 1) (ks + N)) : GW X pc L (.int x :: S) h n kc ks := by
  obtain ⟨p, l1, e, R, s, m, args, below, meth, c, A, Q, K1, ad0, n0⟩ := X
  obtain ⟨hx, hb, hown, hts, hK, hA, hsp, hz, rfl, rfl, rfl, hst, hlk⟩ := hX
  intro ad H locs ls hR hS ha hn hL hv
  subst hN
  refine va_newa (atype := .long) (a0 := (N, .inr (.inl (fun _ => 0)))) (N' := N) hx hb (hts _ hw rfl) rfl hK hR.1 hR.2.1 hS hA (fun _ => rfl) (nI_pos (by omega)) (nI_clamp (by omega)) (by show N * 8 ≤ _; omega) hc1 hc2 hd (fun q cA H1 hK1 hP1 hD1 hS1 => ?_)
  have hcA : cA = K1.2.2.1 := by
    have g1 := (hK1.2 3 _ rfl).2
    have g2 := (hK.2 1 _ rfl).2
    exact Option.some.inj (g1.symm.trans g2)
  subst hcA
  exact gw_more k (gw_push (e := aJ N (fun _ => 0)) hR.2.2 trivial rfl hP1 hD1) hS1 ha hn hL (gw_tl hv)
theorem g_newaQ {l : Launch} {K : gw_K} {X : gw_X} {cc : ByteArray} {own : String} {F Lo MC MS pc : Nat} {L : List (Option Value)} {S : List Value} {h : gw_H} {n kc ks : Nat} {idx : Nat} {x : Int32} (hX : FX l K X cc own F Lo MC MS) (hd : decode cc pc = .ok (.anewarray idx, 3)) (hw : Cond.classLink own idx RX0 ∈ lw_tbl) (N : Nat) (hN : x = nI N) (hN2 : N < 1000) (hc1 : kc + 1 ≤ MC) (hc2 : ks + N ≤ MS) (k : GW X (pc + 3) L (.ref n :: S) (hs h n (aQ N (fun _ => none))) (n + 1) (kc + 1) (ks + N)) : GW X pc L (.int x :: S) h n kc ks := by
  obtain ⟨p, l1, e, R, s, m, args, below, meth, c, A, Q, K1, ad0, n0⟩ := X
  obtain ⟨hx, hb, hown, hts, hK, hA, hsp, hz, rfl, rfl, rfl, hst, hlk⟩ := hX
  intro ad H locs ls hR hS ha hn hL hv
  subst hN
  refine va_newq (N' := N) hx hb hown (hts _ hw rfl) hsp.2.1 hK hR.1 hR.2.1 hS hA (nI_pos (by omega)) (nI_clamp (by omega)) (by omega) hc1 hc2 hd (fun q cA H1 hK1 hP1 hD1 hS1 => ?_)
  have hcA : cA = K1.2.2.2 := by
    obtain ⟨kA, comp, -, -, -, g1⟩ := (hK1.2 3 _ rfl).2
    obtain ⟨kA2, comp2, -, -, -, g2⟩ := (hK.2 2 _ rfl).2
    exact Option.some.inj (g1.symm.trans g2)
  subst hcA
  exact gw_more k (gw_push (e := aQ N (fun _ => none)) hR.2.2 (fun j k hk => nomatch hk) rfl hP1 hD1) hS1 ha hn hL (gw_tl hv)
theorem g_objInit {l : Launch} {K : gw_K} {X : gw_X} {cc : ByteArray} {own : String} {F Lo MC MS pc : Nat} {L : List (Option Value)} {S : List Value} {h : gw_H} {n kc ks : Nat} {idx a : Nat} (hX : FX l K X cc own F Lo MC MS) (hd : decode cc pc = .ok (.invokespecial idx, 3)) (hl : Cond.methodLink own idx Lib.objectInit ∈ lw_tbl) (hi : Cond.instanceMethod Lib.objectInit ∈ lw_tbl) (hc : Cond.code Lib.objectInit ⟨#[0xb1]⟩ 1 none ∈ lw_tbl) (hF : 1 ≤ F) (hLo : (S.map fun v => v.category).sum + 12 ≤ Lo) (k : GW X (pc + 3) L S h n kc ks) : GW X pc L (.ref a :: S) h n kc ks := by
  obtain ⟨p, l1, e, R, s, m, args, below, meth, c, A, Q, K1, ad0, n0⟩ := X
  obtain ⟨hx, hb, hown, hts, hK, hA, hsp, hz, rfl, rfl, rfl, hst, hlk⟩ := hX
  intro ad H locs ls hR hS ha hn hL hv
  refine W.objInit hx hb hown (hts _ hl rfl) (hts _ hi rfl) (hts _ hc rfl) rfl hL.1 rfl hd hF ?_ ?_
  · show 2 * 0 + ((S.map (gw_V ad)).map fun v => v.category).sum + 12 ≤ Lo
    rw [List.map_map, show ((fun v : Value => v.category) ∘ gw_V ad) = (fun v => v.category) from funext fun v => gw_cat ad v]
    omega
  · exact k ad H locs ls hR hS ha hn hL (gw_tl hv)
theorem gw_cats (ad : Nat → Nat) (S : List Value) : ((S.map (gw_V ad)).map fun v => v.category).sum = (S.map fun v => v.category).sum := by
  rw [List.map_map, show ((fun v : Value => v.category) ∘ gw_V ad) = (fun v => v.category) from funext fun v => gw_cat ad v]
theorem g_mmax {l : Launch} {K : gw_K} {X : gw_X} {cc : ByteArray} {own : String} {F Lo MC MS pc : Nat} {L : List (Option Value)} {S : List Value} {h : gw_H} {n kc ks : Nat} {idx : Nat} {x y : Int32} (hX : FX l K X cc own F Lo MC MS) (hd : decode cc pc = .ok (.invokestatic idx, 3)) (hl : Cond.methodLink own idx Lib.Math.max.name ∈ lw_tbl) (h1 : Cond.static Lib.Math.max.name ∈ lw_tbl) (h2 : Cond.initialized "java/lang/Math" ∈ lw_tbl) (h3 : Cond.code Lib.Math.max.name Lib.Math.max.code 2 (some .int) ∈ lw_tbl) (hF : 1 ≤ F) (hLo : (S.map fun v => v.category).sum + 13 ≤ Lo) (hc1 : kc ≤ MC) (hc2 : ks ≤ MS) (k : GW X (pc + 3) L (.int (if x < y then y else x) :: S) h n kc ks) : GW X pc L (.int y :: .int x :: S) h n kc ks := by
  obtain ⟨p, l1, e, R, s, m, args, below, meth, c, A, Q, K1, ad0, n0⟩ := X
  obtain ⟨hx, hb, hown, hts, hK, hA, hsp, hz, rfl, rfl, rfl, hst, hlk⟩ := hX
  intro ad H locs ls hR hS ha hn hL hv
  exact va_mmax hx hb hL.1.symm hown (hts _ hl rfl) (hts _ h1 rfl) (hts _ h2 rfl) (hts _ h3 rfl) hF (by rw [gw_cats]; exact hLo) hc1 hc2 hd (k ad H locs ls hR hS ha hn hL (gw_cs (gw_int n _) (gw_tl (gw_tl hv))))
theorem g_mmin {l : Launch} {K : gw_K} {X : gw_X} {cc : ByteArray} {own : String} {F Lo MC MS pc : Nat} {L : List (Option Value)} {S : List Value} {h : gw_H} {n kc ks : Nat} {idx : Nat} {x y : Int32} (hX : FX l K X cc own F Lo MC MS) (hd : decode cc pc = .ok (.invokestatic idx, 3)) (hl : Cond.methodLink own idx Lib.Math.min.name ∈ lw_tbl) (h1 : Cond.static Lib.Math.min.name ∈ lw_tbl) (h2 : Cond.initialized "java/lang/Math" ∈ lw_tbl) (h3 : Cond.code Lib.Math.min.name Lib.Math.min.code 2 (some .int) ∈ lw_tbl) (hF : 1 ≤ F) (hLo : (S.map fun v => v.category).sum + 13 ≤ Lo) (hc1 : kc ≤ MC) (hc2 : ks ≤ MS) (k : GW X (pc + 3) L (.int (if y < x then y else x) :: S) h n kc ks) : GW X pc L (.int y :: .int x :: S) h n kc ks := by
  obtain ⟨p, l1, e, R, s, m, args, below, meth, c, A, Q, K1, ad0, n0⟩ := X
  obtain ⟨hx, hb, hown, hts, hK, hA, hsp, hz, rfl, rfl, rfl, hst, hlk⟩ := hX
  intro ad H locs ls hR hS ha hn hL hv
  exact va_mmin hx hb hL.1.symm hown (hts _ hl rfl) (hts _ h1 rfl) (hts _ h2 rfl) (hts _ h3 rfl) hF (by rw [gw_cats]; exact hLo) hc1 hc2 hd (k ad H locs ls hR hS ha hn hL (gw_cs (gw_int n _) (gw_tl (gw_tl hv))))
theorem g_copyi {l : Launch} {K : gw_K} {X : gw_X} {cc : ByteArray} {own : String} {F Lo MC MS pc : Nat} {L : List (Option Value)} {S : List Value} {h : gw_H} {n kc ks : Nat} {idx a b n1 n2 : Nat} {f g : Nat → Int32} {x : Int32} (hX : FX l K X cc own F Lo MC MS) (hd : decode cc pc = .ok (.invokestatic idx, 3)) (hl : Cond.methodLink own idx arraycopyName ∈ lw_tbl) (h1 : Cond.native arraycopyName ∈ lw_tbl) (h2 : Cond.static arraycopyName ∈ lw_tbl) (h3 : Cond.initialized "java/lang/System" ∈ lw_tbl) (ho : h b = aI n1 f) (ho2 : h a = aI n2 g) (N : Nat) (hN : x = nI N) (hN1 : N ≤ n1) (hN2 : N ≤ n2) (hlt : N < 2147483648) (hF : 1 ≤ F) (hLo : (S.map fun v => v.category).sum + (nativeFrameWords "java/lang/System" "arraycopy" 5 + 11) ≤ Lo) (k : GW X (pc + 3) L S (hs h a (aI n2 (va_cpy f g 0 0 N))) n kc ks) : GW X pc L (.int x :: .int 0 :: .ref a :: .int 0 :: .ref b :: S) h n kc ks := by
  obtain ⟨p, l1, e, R, s, m, args, below, meth, c, A, Q, K1, ad0, n0⟩ := X
  obtain ⟨hx, hb, hown, hts, hK, hA, hsp, hz, rfl, rfl, rfl, hst, hlk⟩ := hX
  intro ad H locs ls hR hS ha hn hL hv
  subst hN
  have hav : a < n := gw_hd (gw_tl (gw_tl hv)) a rfl
  have hbv : b < n := gw_hd (gw_tl (gw_tl (gw_tl (gw_tl hv)))) b rfl
  have hat := gw_at (K := K1) (ad := ad) hav ho2
  have hbt := gw_at (K := K1) (ad := ad) hbv ho
  have hz0 : (0 : Int32).toNatClampNeg = 0 := rfl
  have hcl : (nI N).toNatClampNeg = N := nI_clamp hlt
  refine va_copyi hx hb hL.1.symm hown (hts _ hl rfl) (hts _ h1 rfl) (hts _ h2 rfl) (hts _ h3 rfl) hK hR.1 hR.2.1 hS b a 0 0 hbt hat rfl rfl rfl (by decide) (by decide) (nI_pos hlt) (by rw [hz0, hcl]; omega) (by rw [hz0, hcl]; omega) (fun i hi => rfl) hF (by rw [gw_cats]; exact hLo) hd (fun H1 locs1 hP1 hD1 hS1 => ?_)
  rw [hz0, hcl] at hP1 hD1
  exact k ad H1 locs1 ls (gw_R.set (e := aI n2 (va_cpy f g 0 0 N)) hR.2.2 hav trivial rfl hP1 hD1) hS1 ha hn hL (gw_tl (gw_tl (gw_tl (gw_tl (gw_tl hv)))))
