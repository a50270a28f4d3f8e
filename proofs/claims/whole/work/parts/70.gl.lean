/-! the law's own walk: local 0 holds the script, a cell outside of the heap's own-/
def GL (X : gw_X) (bb : Nat) (pc : Nat) (L : List (Option Value)) (S : List Value) (h : gw_H) (n kc ks : Nat) : Prop := match X with
  | (p, l, e, R, s, m, args, below, meth, c, A, Q, K, ad0, n0) =>
    ∀ (ad : Nat → Nat) (H : Heap) (locs : List Loc) (ls : Array Slot), gw_R K ad n h A H → va_S A s.heap H locs → (∀ k, k < n0 → ad k = ad0 k) → n0 ≤ n → gw_L ad n c.maxLocals ls L → ls[0]? = some (.val (.ref bb)) → (∀ v ∈ S, gw_ok n v) →
      W p l e R s m args below meth c H locs kc ks Q (F0 m pc ls (S.map (gw_V ad)))
def SX (X : gw_X) (bb Ls : Nat) (xs : Nat → Int32) : Prop := match X with
  | (p, l, e, R, s, m, args, below, meth, c, A, Q, K, ad0, n0) => va_X bb Ls xs s s.heap ∧ bb < s.heap.size ∧ ¬ A bb
theorem gl_has {ad : Nat → Nat} {n nL bb : Nat} {ls : Array Slot} {L : List (Option Value)} (hL : gw_L ad n nL ls L) (h0 : ls[0]? = some (.val (.ref bb))) : lv_has ls nL ((0, .ref bb) :: gw_al ad L) :=
  ⟨hL.has.1, hL.has.2.1, fun q hq => (List.mem_cons.mp hq).elim (fun e => by rw [e]; exact h0) (hL.has.2.2 q)⟩
theorem gl_f1 {ls : Array Slot} {nL : Nat} {p q0 : Nat × Value} {A : List (Nat × Value)} {f : Nat × Value → Bool} (h : lv_has ls nL (p :: (q0 :: A).filter f)) : lv_has ls nL (p :: A.filter f) :=
  ⟨h.1, h.2.1, fun q hq => h.2.2 q ((List.mem_cons.mp hq).elim (fun e => by rw [e]; exact List.mem_cons_self) (fun e => List.mem_cons_of_mem _ (List.mem_filter.mpr ⟨List.mem_cons_of_mem _ (List.mem_filter.mp e).1, (List.mem_filter.mp e).2⟩)))⟩
theorem gl_f0 {ls : Array Slot} {nL : Nat} {p q0 : Nat × Value} {A : List (Nat × Value)} {f : Nat × Value → Bool} (hf : f q0 = true) (h : lv_has ls nL (p :: (q0 :: A).filter f)) : ls[q0.1]? = some (.val q0.2) :=
  h.2.2 q0 (List.mem_cons_of_mem _ (List.mem_filter.mpr ⟨List.mem_cons_self, hf⟩))
theorem gl_more {bb : Nat} {p : Program} {l : Launch} {e : Env} {R : Room} {s : State} {m : MethodId} {args : Array Value} {below : List Frame} {meth : Method} {c : Code} {A : Nat → Prop} {Q : State → Prop} {K : gw_K} {ad0 : Nat → Nat} {n0 pc n q kc ks : Nat} {L : List (Option Value)} {S : List Value} {h : gw_H} {ad : Nat → Nat} {H1 : Heap} {locs : List Loc} {ls : Array Slot}
    (k : GL (p, l, e, R, s, m, args, below, meth, c, A, Q, K, ad0, n0) bb pc L (.ref n :: S) h (n + 1) kc ks) (hR : gw_R K (fun j => if j = n then q else ad j) (n + 1) h A H1) (hS : va_S A s.heap H1 locs) (ha : ∀ k, k < n0 → ad k = ad0 k) (hn : n0 ≤ n) (hL : gw_L ad n c.maxLocals ls L) (h0 : ls[0]? = some (.val (.ref bb))) (hv : ∀ v ∈ S, gw_ok n v) :
    W p l e R s m args below meth c H1 locs kc ks Q (F0 m pc ls (.ref q :: S.map (gw_V ad))) := by
  have ha1 : ∀ k, k < n → (fun j => if j = n then q else ad j) k = ad k := fun k hk => by simp [Nat.ne_of_lt hk]
  have h1 := k (fun j => if j = n then q else ad j) H1 locs ls hR hS (fun j hj => (ha1 j (by omega)).trans (ha j hj)) (by omega) (hL.ad ha1 (Nat.le_succ n)) h0 (gw_cs (gw_ref (Nat.lt_succ_self n)) (gw_oks_up (Nat.le_succ n) hv))
  have e1 : (.ref n :: S).map (gw_V (fun j => if j = n then q else ad j)) = .ref q :: S.map (gw_V ad) := by
    rw [List.map_cons, gw_map_ad ha1 hv]
    simp [gw_V]
  rw [e1] at h1
  exact h1
theorem l_iconst {bb : Nat} {l : Launch} {K : gw_K} {X : gw_X} {cc : ByteArray} {own : String} {F Lo MC MS pc : Nat} {L : List (Option Value)} {S : List Value} {h : gw_H} {n kc ks : Nat} {nn : Int} {v : Int32} (hX : FX l K X cc own F Lo MC MS) (hd : decode cc pc = .ok (.iconst nn, 1)) (hc : Int32.ofInt nn = v) (k : GL X bb (pc + 1) L (.int v :: S) h n kc ks) : GL X bb pc L S h n kc ks := by
  obtain ⟨p, l1, e, R, s, m, args, below, meth, c, A, Q, K1, ad0, n0⟩ := X
  obtain ⟨hx, hb, hown, hts, hK, hA, hsp, hz, rfl, rfl, rfl, hst, hlk⟩ := hX
  intro ad H locs ls hR hS ha hn hL h0 hv
  exact lv_iconst hx hb hd hc (k ad H locs ls hR hS ha hn hL h0 (gw_cs (gw_int n v) hv))
theorem l_bipush {bb : Nat} {l : Launch} {K : gw_K} {X : gw_X} {cc : ByteArray} {own : String} {F Lo MC MS pc : Nat} {L : List (Option Value)} {S : List Value} {h : gw_H} {n kc ks : Nat} {nn : Int} {v : Int32} (hX : FX l K X cc own F Lo MC MS) (hd : decode cc pc = .ok (.bipush nn, 2)) (hc : (Int8.ofInt nn).toInt32 = v) (k : GL X bb (pc + 2) L (.int v :: S) h n kc ks) : GL X bb pc L S h n kc ks := by
  obtain ⟨p, l1, e, R, s, m, args, below, meth, c, A, Q, K1, ad0, n0⟩ := X
  obtain ⟨hx, hb, hown, hts, hK, hA, hsp, hz, rfl, rfl, rfl, hst, hlk⟩ := hX
  intro ad H locs ls hR hS ha hn hL h0 hv
  exact lv_bipush hx hb hd hc (k ad H locs ls hR hS ha hn hL h0 (gw_cs (gw_int n v) hv))
theorem l_iload {bb : Nat} {l : Launch} {K : gw_K} {X : gw_X} {cc : ByteArray} {own : String} {F Lo MC MS pc : Nat} {L : List (Option Value)} {S : List Value} {h : gw_H} {n kc ks : Nat} {i : Nat} {x : Int32} (hX : FX l K X cc own F Lo MC MS) (hd : decode cc pc = .ok (.iload i, 2)) (hl : L[i]? = some (some (.int x))) (k : GL X bb (pc + 2) L (.int x :: S) h n kc ks) : GL X bb pc L S h n kc ks := by
  obtain ⟨p, l1, e, R, s, m, args, below, meth, c, A, Q, K1, ad0, n0⟩ := X
  obtain ⟨hx, hb, hown, hts, hK, hA, hsp, hz, rfl, rfl, rfl, hst, hlk⟩ := hX
  intro ad H locs ls hR hS ha hn hL h0 hv
  exact lv_iload hx hb hd (hL.2.2.2 _ _ hl).1 (k ad H locs ls hR hS ha hn hL h0 (gw_cs (gw_int n x) hv))
theorem l_aload_n {bb : Nat} {l : Launch} {K : gw_K} {X : gw_X} {cc : ByteArray} {own : String} {F Lo MC MS pc : Nat} {L : List (Option Value)} {S : List Value} {h : gw_H} {n kc ks : Nat} {q : Fin 4} {i : Nat} {x : Nat} (hX : FX l K X cc own F Lo MC MS) (hd : decode cc pc = .ok (.aload_n q, 1)) (hi : (q : Nat) = i) (hl : L[i]? = some (some (.ref x))) (k : GL X bb (pc + 1) L (.ref x :: S) h n kc ks) : GL X bb pc L S h n kc ks := by
  obtain ⟨p, l1, e, R, s, m, args, below, meth, c, A, Q, K1, ad0, n0⟩ := X
  obtain ⟨hx, hb, hown, hts, hK, hA, hsp, hz, rfl, rfl, rfl, hst, hlk⟩ := hX
  intro ad H locs ls hR hS ha hn hL h0 hv
  exact lv_aload_n hx hb hd hi (hL.2.2.2 _ _ hl).1 (k ad H locs ls hR hS ha hn hL h0 (gw_cs (hL.2.2.2 _ _ hl).2 hv))
theorem l_dload {bb : Nat} {l : Launch} {K : gw_K} {X : gw_X} {cc : ByteArray} {own : String} {F Lo MC MS pc : Nat} {L : List (Option Value)} {S : List Value} {h : gw_H} {n kc ks : Nat} {i : Nat} {x : UInt64} (hX : FX l K X cc own F Lo MC MS) (hd : decode cc pc = .ok (.dload i, 2)) (hl : L[i]? = some (some (.double x))) (k : GL X bb (pc + 2) L (.double x :: S) h n kc ks) : GL X bb pc L S h n kc ks := by
  obtain ⟨p, l1, e, R, s, m, args, below, meth, c, A, Q, K1, ad0, n0⟩ := X
  obtain ⟨hx, hb, hown, hts, hK, hA, hsp, hz, rfl, rfl, rfl, hst, hlk⟩ := hX
  intro ad H locs ls hR hS ha hn hL h0 hv
  exact lv_dload hx hb hd (hL.2.2.2 _ _ hl).1 (k ad H locs ls hR hS ha hn hL h0 (gw_cs (gw_dbl n x) hv))
theorem l_iadd {bb : Nat} {l : Launch} {K : gw_K} {X : gw_X} {cc : ByteArray} {own : String} {F Lo MC MS pc : Nat} {L : List (Option Value)} {S : List Value} {h : gw_H} {n kc ks : Nat} {x y : Int32} (hX : FX l K X cc own F Lo MC MS) (hd : decode cc pc = .ok (.iadd, 1)) (k : GL X bb (pc + 1) L (.int (x + y) :: S) h n kc ks) : GL X bb pc L (.int y :: .int x :: S) h n kc ks := by
  obtain ⟨p, l1, e, R, s, m, args, below, meth, c, A, Q, K1, ad0, n0⟩ := X
  obtain ⟨hx, hb, hown, hts, hK, hA, hsp, hz, rfl, rfl, rfl, hst, hlk⟩ := hX
  intro ad H locs ls hR hS ha hn hL h0 hv
  exact lv_iadd hx hb hd (k ad H locs ls hR hS ha hn hL h0 (gw_cs (gw_int n _) (gw_tl (gw_tl hv))))
theorem l_isub {bb : Nat} {l : Launch} {K : gw_K} {X : gw_X} {cc : ByteArray} {own : String} {F Lo MC MS pc : Nat} {L : List (Option Value)} {S : List Value} {h : gw_H} {n kc ks : Nat} {x y : Int32} (hX : FX l K X cc own F Lo MC MS) (hd : decode cc pc = .ok (.isub, 1)) (k : GL X bb (pc + 1) L (.int (x - y) :: S) h n kc ks) : GL X bb pc L (.int y :: .int x :: S) h n kc ks := by
  obtain ⟨p, l1, e, R, s, m, args, below, meth, c, A, Q, K1, ad0, n0⟩ := X
  obtain ⟨hx, hb, hown, hts, hK, hA, hsp, hz, rfl, rfl, rfl, hst, hlk⟩ := hX
  intro ad H locs ls hR hS ha hn hL h0 hv
  exact lv_isub hx hb hd (k ad H locs ls hR hS ha hn hL h0 (gw_cs (gw_int n _) (gw_tl (gw_tl hv))))
theorem l_iand {bb : Nat} {l : Launch} {K : gw_K} {X : gw_X} {cc : ByteArray} {own : String} {F Lo MC MS pc : Nat} {L : List (Option Value)} {S : List Value} {h : gw_H} {n kc ks : Nat} {x y : Int32} (hX : FX l K X cc own F Lo MC MS) (hd : decode cc pc = .ok (.iand, 1)) (k : GL X bb (pc + 1) L (.int (x &&& y) :: S) h n kc ks) : GL X bb pc L (.int y :: .int x :: S) h n kc ks := by
  obtain ⟨p, l1, e, R, s, m, args, below, meth, c, A, Q, K1, ad0, n0⟩ := X
  obtain ⟨hx, hb, hown, hts, hK, hA, hsp, hz, rfl, rfl, rfl, hst, hlk⟩ := hX
  intro ad H locs ls hR hS ha hn hL h0 hv
  exact lv_iand hx hb hd (k ad H locs ls hR hS ha hn hL h0 (gw_cs (gw_int n _) (gw_tl (gw_tl hv))))
theorem l_if_eq {bb : Nat} {l : Launch} {K : gw_K} {X : gw_X} {cc : ByteArray} {own : String} {F Lo MC MS pc : Nat} {L : List (Option Value)} {S : List Value} {h : gw_H} {n kc ks : Nat} {x : Int32} {off : Int} {tgt : Nat} (hX : FX l K X cc own F Lo MC MS) (hd : decode cc pc = .ok (.ifCond .eq off, 3)) (ht : (pc : Int) + off = (tgt : Int)) (kt : x = 0 → GL X bb tgt L S h n kc ks) (kf : ¬ x = 0 → GL X bb (pc + 3) L S h n kc ks) : GL X bb pc L (.int x :: S) h n kc ks := by
  obtain ⟨p, l1, e, R, s, m, args, below, meth, c, A, Q, K1, ad0, n0⟩ := X
  obtain ⟨hx, hb, hown, hts, hK, hA, hsp, hz, rfl, rfl, rfl, hst, hlk⟩ := hX
  intro ad H locs ls hR hS ha hn hL h0 hv
  exact lv_if_eq hx hb hd ht (fun q => kt q ad H locs ls hR hS ha hn hL h0 (gw_tl hv)) (fun q => kf q ad H locs ls hR hS ha hn hL h0 (gw_tl hv))
theorem l_if_ne {bb : Nat} {l : Launch} {K : gw_K} {X : gw_X} {cc : ByteArray} {own : String} {F Lo MC MS pc : Nat} {L : List (Option Value)} {S : List Value} {h : gw_H} {n kc ks : Nat} {x : Int32} {off : Int} {tgt : Nat} (hX : FX l K X cc own F Lo MC MS) (hd : decode cc pc = .ok (.ifCond .ne off, 3)) (ht : (pc : Int) + off = (tgt : Int)) (kt : ¬ x = 0 → GL X bb tgt L S h n kc ks) (kf : x = 0 → GL X bb (pc + 3) L S h n kc ks) : GL X bb pc L (.int x :: S) h n kc ks := by
  obtain ⟨p, l1, e, R, s, m, args, below, meth, c, A, Q, K1, ad0, n0⟩ := X
  obtain ⟨hx, hb, hown, hts, hK, hA, hsp, hz, rfl, rfl, rfl, hst, hlk⟩ := hX
  intro ad H locs ls hR hS ha hn hL h0 hv
  exact lv_if_ne hx hb hd ht (fun q => kt q ad H locs ls hR hS ha hn hL h0 (gw_tl hv)) (fun q => kf q ad H locs ls hR hS ha hn hL h0 (gw_tl hv))
theorem l_icmp_eq {bb : Nat} {l : Launch} {K : gw_K} {X : gw_X} {cc : ByteArray} {own : String} {F Lo MC MS pc : Nat} {L : List (Option Value)} {S : List Value} {h : gw_H} {n kc ks : Nat} {x y : Int32} {off : Int} {tgt : Nat} (hX : FX l K X cc own F Lo MC MS) (hd : decode cc pc = .ok (.if_icmp .eq off, 3)) (ht : (pc : Int) + off = (tgt : Int)) (kt : x = y → GL X bb tgt L S h n kc ks) (kf : ¬ x = y → GL X bb (pc + 3) L S h n kc ks) : GL X bb pc L (.int y :: .int x :: S) h n kc ks := by
  obtain ⟨p, l1, e, R, s, m, args, below, meth, c, A, Q, K1, ad0, n0⟩ := X
  obtain ⟨hx, hb, hown, hts, hK, hA, hsp, hz, rfl, rfl, rfl, hst, hlk⟩ := hX
  intro ad H locs ls hR hS ha hn hL h0 hv
  exact lv_icmp_eq hx hb hd ht (fun q => kt q ad H locs ls hR hS ha hn hL h0 (gw_tl (gw_tl hv))) (fun q => kf q ad H locs ls hR hS ha hn hL h0 (gw_tl (gw_tl hv)))
theorem l_icmp_gt {bb : Nat} {l : Launch} {K : gw_K} {X : gw_X} {cc : ByteArray} {own : String} {F Lo MC MS pc : Nat} {L : List (Option Value)} {S : List Value} {h : gw_H} {n kc ks : Nat} {x y : Int32} {off : Int} {tgt : Nat} (hX : FX l K X cc own F Lo MC MS) (hd : decode cc pc = .ok (.if_icmp .gt off, 3)) (ht : (pc : Int) + off = (tgt : Int)) (kt : y < x → GL X bb tgt L S h n kc ks) (kf : ¬ y < x → GL X bb (pc + 3) L S h n kc ks) : GL X bb pc L (.int y :: .int x :: S) h n kc ks := by
  obtain ⟨p, l1, e, R, s, m, args, below, meth, c, A, Q, K1, ad0, n0⟩ := X
  obtain ⟨hx, hb, hown, hts, hK, hA, hsp, hz, rfl, rfl, rfl, hst, hlk⟩ := hX
  intro ad H locs ls hR hS ha hn hL h0 hv
  exact lv_icmp_gt hx hb hd ht (fun q => kt q ad H locs ls hR hS ha hn hL h0 (gw_tl (gw_tl hv))) (fun q => kf q ad H locs ls hR hS ha hn hL h0 (gw_tl (gw_tl hv)))
theorem l_goto {bb : Nat} {l : Launch} {K : gw_K} {X : gw_X} {cc : ByteArray} {own : String} {F Lo MC MS pc : Nat} {L : List (Option Value)} {S : List Value} {h : gw_H} {n kc ks : Nat} {off : Int} {tgt : Nat} (hX : FX l K X cc own F Lo MC MS) (hd : decode cc pc = .ok (.goto off, 3)) (ht : (pc : Int) + off = (tgt : Int)) (k : GL X bb tgt L S h n kc ks) : GL X bb pc L S h n kc ks := by
  obtain ⟨p, l1, e, R, s, m, args, below, meth, c, A, Q, K1, ad0, n0⟩ := X
  obtain ⟨hx, hb, hown, hts, hK, hA, hsp, hz, rfl, rfl, rfl, hst, hlk⟩ := hX
  intro ad H locs ls hR hS ha hn hL h0 hv
  exact lv_goto hx hb hd ht (k ad H locs ls hR hS ha hn hL h0 hv)
theorem l_tableIn {bb : Nat} {l : Launch} {K : gw_K} {X : gw_X} {cc : ByteArray} {own : String} {F Lo MC MS pc : Nat} {L : List (Option Value)} {S : List Value} {h : gw_H} {n kc ks : Nat} {dflt lo hi : Int} {offs : Array Int} {len : Nat} {x : Int32} {off : Int} {tgt : Nat} (hX : FX l K X cc own F Lo MC MS) (hd : decode cc pc = .ok (.tableswitch dflt lo hi offs, len)) (h1 : ¬ x.toInt < lo) (h2 : ¬ hi < x.toInt) (ho : offs[(x.toInt - lo).toNat]? = some off) (ht : (pc : Int) + off = (tgt : Int)) (k : GL X bb tgt L S h n kc ks) : GL X bb pc L (.int x :: S) h n kc ks := by
  obtain ⟨p, l1, e, R, s, m, args, below, meth, c, A, Q, K1, ad0, n0⟩ := X
  obtain ⟨hx, hb, hown, hts, hK, hA, hsp, hz, rfl, rfl, rfl, hst, hlk⟩ := hX
  intro ad H locs ls hR hS ha hn hL h0 hv
  exact lv_tableIn hx hb hd h1 h2 ho ht (k ad H locs ls hR hS ha hn hL h0 (gw_tl hv))
theorem l_tableOut {bb : Nat} {l : Launch} {K : gw_K} {X : gw_X} {cc : ByteArray} {own : String} {F Lo MC MS pc : Nat} {L : List (Option Value)} {S : List Value} {h : gw_H} {n kc ks : Nat} {dflt lo hi : Int} {offs : Array Int} {len : Nat} {x : Int32} {tgt : Nat} (hX : FX l K X cc own F Lo MC MS) (hd : decode cc pc = .ok (.tableswitch dflt lo hi offs, len)) (ho : x.toInt < lo ∨ hi < x.toInt) (ht : (pc : Int) + dflt = (tgt : Int)) (k : GL X bb tgt L S h n kc ks) : GL X bb pc L (.int x :: S) h n kc ks := by
  obtain ⟨p, l1, e, R, s, m, args, below, meth, c, A, Q, K1, ad0, n0⟩ := X
  obtain ⟨hx, hb, hown, hts, hK, hA, hsp, hz, rfl, rfl, rfl, hst, hlk⟩ := hX
  intro ad H locs ls hR hS ha hn hL h0 hv
  exact lv_tableOut hx hb hd ho ht (k ad H locs ls hR hS ha hn hL h0 (gw_tl hv))
theorem l_i2l {bb : Nat} {l : Launch} {K : gw_K} {X : gw_X} {cc : ByteArray} {own : String} {F Lo MC MS pc : Nat} {L : List (Option Value)} {S : List Value} {h : gw_H} {n kc ks : Nat} {x : Int32} (hX : FX l K X cc own F Lo MC MS) (hd : decode cc pc = .ok (.i2l, 1)) (k : GL X bb (pc + 1) L (.long x.toInt64 :: S) h n kc ks) : GL X bb pc L (.int x :: S) h n kc ks := by
  obtain ⟨p, l1, e, R, s, m, args, below, meth, c, A, Q, K1, ad0, n0⟩ := X
  obtain ⟨hx, hb, hown, hts, hK, hA, hsp, hz, rfl, rfl, rfl, hst, hlk⟩ := hX
  intro ad H locs ls hR hS ha hn hL h0 hv
  exact lv_i2l hx hb hd rfl (k ad H locs ls hR hS ha hn hL h0 (gw_cs (gw_long n _) (gw_tl hv)))
theorem l_lcmp {bb : Nat} {l : Launch} {K : gw_K} {X : gw_X} {cc : ByteArray} {own : String} {F Lo MC MS pc : Nat} {L : List (Option Value)} {S : List Value} {h : gw_H} {n kc ks : Nat} {x y : Int64} (hX : FX l K X cc own F Lo MC MS) (hd : decode cc pc = .ok (.lcmp, 1)) (k : GL X bb (pc + 1) L (.int (lg_cmp x y) :: S) h n kc ks) : GL X bb pc L (.long y :: .long x :: S) h n kc ks := by
  obtain ⟨p, l1, e, R, s, m, args, below, meth, c, A, Q, K1, ad0, n0⟩ := X
  obtain ⟨hx, hb, hown, hts, hK, hA, hsp, hz, rfl, rfl, rfl, hst, hlk⟩ := hX
  intro ad H locs ls hR hS ha hn hL h0 hv
  exact W.lcmp hx hb hd (k ad H locs ls hR hS ha hn hL h0 (gw_cs (gw_int n _) (gw_tl (gw_tl hv))))
theorem l_dcmp {bb : Nat} {l : Launch} {K : gw_K} {X : gw_X} {cc : ByteArray} {own : String} {F Lo MC MS pc : Nat} {L : List (Option Value)} {S : List Value} {h : gw_H} {n kc ks : Nat} {x y : UInt64} {op : CmpOp} (hX : FX l K X cc own F Lo MC MS) (hd : decode cc pc = .ok (.dcmp op, 1)) (k : GL X bb (pc + 1) L (.int (Op.cmpValue (FP.dcmp x y) op) :: S) h n kc ks) : GL X bb pc L (.double y :: .double x :: S) h n kc ks := by
  obtain ⟨p, l1, e, R, s, m, args, below, meth, c, A, Q, K1, ad0, n0⟩ := X
  obtain ⟨hx, hb, hown, hts, hK, hA, hsp, hz, rfl, rfl, rfl, hst, hlk⟩ := hX
  intro ad H locs ls hR hS ha hn hL h0 hv
  exact lv_dcmp hx hb hd (k ad H locs ls hR hS ha hn hL h0 (gw_cs (gw_int n _) (gw_tl (gw_tl hv))))
theorem l_laload {bb : Nat} {l : Launch} {K : gw_K} {X : gw_X} {cc : ByteArray} {own : String} {F Lo MC MS pc : Nat} {L : List (Option Value)} {S : List Value} {h : gw_H} {n kc ks : Nat} {a len : Nat} {f : Nat → Int64} {ix : Int32} (hX : FX l K X cc own F Lo MC MS) (hd : decode cc pc = .ok (.laload, 1)) (ho : h a = aJ len f) (i : Nat) (hi : i < len) (hix : ix = nI i) (hlen : len < 2147483648) (k : GL X bb (pc + 1) L (.long (f i) :: S) h n kc ks) : GL X bb pc L (.int ix :: .ref a :: S) h n kc ks := by
  obtain ⟨p, l1, e, R, s, m, args, below, meth, c, A, Q, K1, ad0, n0⟩ := X
  obtain ⟨hx, hb, hown, hts, hK, hA, hsp, hz, rfl, rfl, rfl, hst, hlk⟩ := hX
  intro ad H locs ls hR hS ha hn hL h0 hv
  have hav : a < n := gw_hd (gw_tl hv) a rfl
  have hat := gw_at (K := K1) (ad := ad) hav ho
  obtain ⟨q1, q2⟩ := gw_vpin hi hix hlen
  refine va_lald hx hb hK hR.1 a 1 hat rfl q1 hd ?_
  rw [q2]
  exact k ad H locs ls hR hS ha hn hL h0 (gw_cs (gw_long n _) (gw_tl (gw_tl hv)))
theorem l_new {bb : Nat} {l : Launch} {K : gw_K} {X : gw_X} {cc : ByteArray} {own : String} {F Lo MC MS pc : Nat} {L : List (Option Value)} {S : List Value} {h : gw_H} {n kc ks : Nat} {idx ci N : Nat} {fs : List Value} (hX : FX l K X cc own F Lo MC MS) (hd : decode cc pc = .ok (.new idx, 3)) (hf : NL own idx ci N fs) (hc1 : kc + 1 ≤ MC) (hc2 : ks + N ≤ MS) (k : GL X bb (pc + 3) L (.ref n :: S) (hs h n (oB ci fs)) (n + 1) (kc + 1) (ks + N)) : GL X bb pc L S h n kc ks := by
  obtain ⟨p, l1, e, R, s, m, args, below, meth, c, A, Q, K1, ad0, n0⟩ := X
  obtain ⟨hx, hb, hown, hts, hK, hA, hsp, hz, rfl, rfl, rfl, hst, hlk⟩ := hX
  intro ad H locs ls hR hS ha hn hL h0 hv
  obtain ⟨C, T, ty0, h1, h2, h3, h4, h5, h6, h7, h8⟩ := hf
  have hts' : ∀ w ∈ lw_tbl.filter goodWord, w.before args s = true := fun w hw => hts w (List.mem_filter.mp hw).1 (List.mem_filter.mp hw).2
  refine va_new (ci := ci) (fs := fs) hx hb hts' h2 ty0 h3 hown (hts _ h6 rfl) (hts _ h7 rfl) (hts _ h8 rfl) hK hR.1 hR.2.1 hS hA h1 h4 hc1 hc2 hd (fun q H1 hP1 hD1 hS1 => ?_)
  exact gl_more k (gw_push (e := oB ci fs) hR.2.2 (gw_plain_ok h5 _) (by show _ = (Sum.inr (ci, fs.map (gw_V _)) : va_E); rw [gw_plain_map h5]) hP1 hD1) hS1 ha hn hL h0 hv
theorem l_newa_aJ {bb : Nat} {l : Launch} {K : gw_K} {X : gw_X} {cc : ByteArray} {own : String} {F Lo MC MS pc : Nat} {L : List (Option Value)} {S : List Value} {h : gw_H} {n kc ks : Nat} {x : Int32} (hX : FX l K X cc own F Lo MC MS) (hd : decode cc pc = .ok (.newarray .long, 2)) (hw : Cond.arrayClass .long ∈ lw_tbl) (N : Nat) (hN : x = nI N) (hN2 : N < 1000) (hc1 : kc + 1 ≤ MC) (hc2 : ks + N ≤ MS) (k : GL X bb (pc + 2) L (.ref n :: S) (hs h n (aJ N (fun _ => 0))) (n + 1) (kc + 1) (ks + N)) : GL X bb pc L (.int x :: S) h n kc ks := by
  obtain ⟨p, l1, e, R, s, m, args, below, meth, c, A, Q, K1, ad0, n0⟩ := X
  obtain ⟨hx, hb, hown, hts, hK, hA, hsp, hz, rfl, rfl, rfl, hst, hlk⟩ := hX
  intro ad H locs ls hR hS ha hn hL h0 hv
  subst hN
  refine va_newa (atype := .long) (a0 := (N, .inr (.inl (fun _ => 0)))) (N' := N) hx hb (hts _ hw rfl) rfl hK hR.1 hR.2.1 hS hA (fun _ => rfl) (nI_pos (by omega)) (nI_clamp (by omega)) (by show N * 8 ≤ _; omega) hc1 hc2 hd (fun q cA H1 hK1 hP1 hD1 hS1 => ?_)
  have hcA : cA = K1.2.2.1 := by
    have g1 := (hK1.2 3 _ rfl).2
    have g2 := (hK.2 1 _ rfl).2
    exact Option.some.inj (g1.symm.trans g2)
  subst hcA
  exact gl_more k (gw_push (e := aJ N (fun _ => 0)) hR.2.2 trivial rfl hP1 hD1) hS1 ha hn hL h0 (gw_tl hv)
theorem l_dup {bb : Nat} {l : Launch} {K : gw_K} {X : gw_X} {cc : ByteArray} {own : String} {F Lo MC MS pc : Nat} {L : List (Option Value)} {S : List Value} {h : gw_H} {n kc ks : Nat} {v : Value} (hX : FX l K X cc own F Lo MC MS) (hd : decode cc pc = .ok (.dup, 1)) (hc : v.category = 1) (k : GL X bb (pc + 1) L (v :: v :: S) h n kc ks) : GL X bb pc L (v :: S) h n kc ks := by
  obtain ⟨p, l1, e, R, s, m, args, below, meth, c, A, Q, K1, ad0, n0⟩ := X
  obtain ⟨hx, hb, hown, hts, hK, hA, hsp, hz, rfl, rfl, rfl, hst, hlk⟩ := hX
  intro ad H locs ls hR hS ha hn hL h0 hv
  exact lv_dup hx hb hd (by rw [gw_cat]; exact hc) (k ad H locs ls hR hS ha hn hL h0 (gw_cs (gw_hd hv) hv))
theorem l_istore {bb : Nat} {l : Launch} {K : gw_K} {X : gw_X} {cc : ByteArray} {own : String} {F Lo MC MS pc : Nat} {L : List (Option Value)} {S : List Value} {h : gw_H} {n kc ks : Nat} {i : Nat} {x : Int32} (hX : FX l K X cc own F Lo MC MS) (hd : decode cc pc = .ok (.istore i, 2)) (hi2 : i < L.length) (hi0 : 0 < i) (hk : gw_k L i = true) (k : GL X bb (pc + 2) (L.set i (some (.int x))) S h n kc ks) : GL X bb pc L (.int x :: S) h n kc ks := by
  obtain ⟨p, l1, e, R, s, m, args, below, meth, c, A, Q, K1, ad0, n0⟩ := X
  obtain ⟨hx, hb, hown, hts, hK, hA, hsp, hz, rfl, rfl, rfl, hst, hlk⟩ := hX
  intro ad H locs ls hR hS ha hn hL h0 hv
  exact lv_istore hx hb hd  (gl_has hL h0) (by rw [← hL.2.2.1]; exact hi2) rfl (fun ls1 hl1 => k ad H locs ls1 hR hS ha hn (hL.st1 hk (gw_hd hv) (gl_f1 hl1)) (gl_f0 (by simp [Value.category]; omega) hl1) (gw_tl hv))
theorem l_astore_n {bb : Nat} {l : Launch} {K : gw_K} {X : gw_X} {cc : ByteArray} {own : String} {F Lo MC MS pc : Nat} {L : List (Option Value)} {S : List Value} {h : gw_H} {n kc ks : Nat} {q : Fin 4} {i : Nat} {x : Nat} (hX : FX l K X cc own F Lo MC MS) (hd : decode cc pc = .ok (.astore_n q, 1)) (hi : (q : Nat) = i) (hi2 : i < L.length) (hi0 : 0 < i) (hk : gw_k L i = true) (k : GL X bb (pc + 1) (L.set i (some (.ref x))) S h n kc ks) : GL X bb pc L (.ref x :: S) h n kc ks := by
  obtain ⟨p, l1, e, R, s, m, args, below, meth, c, A, Q, K1, ad0, n0⟩ := X
  obtain ⟨hx, hb, hown, hts, hK, hA, hsp, hz, rfl, rfl, rfl, hst, hlk⟩ := hX
  intro ad H locs ls hR hS ha hn hL h0 hv
  exact lv_astore_n hx hb hd hi  (gl_has hL h0) (by rw [← hL.2.2.1]; exact hi2) rfl (fun ls1 hl1 => k ad H locs ls1 hR hS ha hn (hL.st1 hk (gw_hd hv) (gl_f1 hl1)) (gl_f0 (by simp [Value.category]; omega) hl1) (gw_tl hv))
theorem l_dstore {bb : Nat} {l : Launch} {K : gw_K} {X : gw_X} {cc : ByteArray} {own : String} {F Lo MC MS pc : Nat} {L : List (Option Value)} {S : List Value} {h : gw_H} {n kc ks : Nat} {i : Nat} {x : UInt64} (hX : FX l K X cc own F Lo MC MS) (hd : decode cc pc = .ok (.dstore i, 2)) (hi2 : i + 1 < L.length) (hi0 : 0 < i) (hk : gw_k L i = true) (k : GL X bb (pc + 2) ((L.set i (some (.double x))).set (i + 1) none) S h n kc ks) : GL X bb pc L (.double x :: S) h n kc ks := by
  obtain ⟨p, l1, e, R, s, m, args, below, meth, c, A, Q, K1, ad0, n0⟩ := X
  obtain ⟨hx, hb, hown, hts, hK, hA, hsp, hz, rfl, rfl, rfl, hst, hlk⟩ := hX
  intro ad H locs ls hR hS ha hn hL h0 hv
  exact lv_dstore hx hb hd  (gl_has hL h0) (by rw [← hL.2.2.1]; exact hi2) rfl (fun ls1 hl1 => k ad H locs ls1 hR hS ha hn (hL.st2 hk (gw_hd hv) (gl_f1 hl1)) (gl_f0 (by simp [Value.category]; omega) hl1) (gw_tl hv))
theorem l_iinc {bb : Nat} {l : Launch} {K : gw_K} {X : gw_X} {cc : ByteArray} {own : String} {F Lo MC MS pc : Nat} {L : List (Option Value)} {S : List Value} {h : gw_H} {n kc ks : Nat} {i : Nat} {nn : Int} {x v : Int32} (hX : FX l K X cc own F Lo MC MS) (hd : decode cc pc = .ok (.iinc i nn, 3)) (hl : L[i]? = some (some (.int x))) (hi0 : 0 < i) (hk : gw_k L i = true) (hc : x + Int32.ofInt nn = v) (k : GL X bb (pc + 3) (L.set i (some (.int v))) S h n kc ks) : GL X bb pc L S h n kc ks := by
  obtain ⟨p, l1, e, R, s, m, args, below, meth, c, A, Q, K1, ad0, n0⟩ := X
  obtain ⟨hx, hb, hown, hts, hK, hA, hsp, hz, rfl, rfl, rfl, hst, hlk⟩ := hX
  intro ad H locs ls hR hS ha hn hL h0 hv
  obtain ⟨k0, hk0⟩ := List.getElem?_of_mem (List.mem_cons_of_mem (0, Value.ref bb) (gw_al_mem (ad := ad) hl))
  exact lv_iinc hx hb hd (gl_has hL h0) hk0 hc (by rw [← hL.2.2.1]; exact gw_len hl) rfl (fun ls1 hl1 => k ad H locs ls1 hR hS ha hn (hL.st1 (v := .int v) hk (gw_int n v) (gl_f1 hl1)) (gl_f0 (by simp [Value.category]; omega) hl1) hv)
theorem PX0.no {E : String} {h : gw_H} {n : Nat} (h1 : PX0 E h n) : False := h1
theorem gl_run {bb : Nat} {p : Program} {l : Launch} {e : Env} {R : Room} {s : State} {m : MethodId} {args : Array Value} {below : List Frame} {meth : Method} {c : Code} {A : Nat → Prop} {Q : State → Prop} {K : gw_K} {ad0 : Nat → Nat} {n0 pc n kc ks mc ms : Nat} {L : List (Option Value)} {S : List Value} {h : gw_H} {ad : Nat → Nat} {H : Heap} {locs : List Loc} {ls : Array Slot} {st0 : List Value} {aa : Array Value} {Post : Option Value → gw_H → Nat → Prop}
    (hr : vx_Run p l e R s m args below meth c H locs kc ks mc ms (F0 m pc ls st0) (S.map (gw_V ad)) (gw_Q K ad n H.size Post aa) (gw_XC K ad n H.size PX0) (gw_fr ad n H.size))
    (hR : gw_R K ad n h A H) (hS : va_S A s.heap H locs) (hA : ∀ q, s.heap.size ≤ q → A q) (ha : ∀ k, k < n0 → ad k = ad0 k) (hn : n0 ≤ n) (hL : gw_L ad n c.maxLocals ls L) (h0 : ls[0]? = some (.val (.ref bb))) (hv : ∀ v ∈ S, gw_ok n v)
    (kk : ∀ (rv : Option Value) (h' : gw_H) (n' : Nat), n ≤ n' → Post rv h' n' → GL (p, l, e, R, s, m, args, below, meth, c, A, Q, K, ad0, n0) bb (pc + 3) L (rv.toList ++ S) h' n' (kc + mc) (ks + ms)) :
    W p l e R s m args below meth c H locs kc ks Q (F0 m pc ls st0) := by
  have hsub : ∀ q, gw_fr ad n H.size q → A q := fun q hq => by
    rcases hq with ⟨k, hk, rfl⟩ | hq
    · exact hR.2.1.2 k _ (gw_ws_at hk)
    · exact hA q (Nat.le_trans hS.1 hq)
  intro T hT X
  rcases hr T hT X with ⟨v, st₀, t, T', L1, hh0, X', hL1, e1, e2, ⟨⟨rv, h', n', ad', hrv, hp, had, hn', hR', hok⟩, hF⟩, st⟩ | ⟨q, st₀, t, T', L1, E, ce, hh0, X', hL1, e1, e2, ⟨⟨h', n', ad', hp, had, hn', hR'⟩, hF⟩, hce, hcv, hcl, st⟩
  · cases hrv
    obtain ⟨k1, k2, k3⟩ := vx_keep hh0 e1 hS (fun q _ hq => hsub q hq) hsub hL1 hF
    have hg := kk rv h' n' hn' hp ad' T'.heap (locs ++ L1) ls (by rw [e1]; exact hR'.weaken fun k hk hq => hsub _ hq) k3 (fun k hk => by rw [had k (by omega)]; exact ha k hk) (by omega) (hL.ad had hn') h0 (fun w hw => by
      rcases List.mem_append.mp hw with hw | hw
      · exact hok w (by cases rv with
          | none => cases hw
          | some x => simp at hw; rw [hw])
      · exact gw_ok_up hn' (hv w hw))
    have e3 : (rv.toList ++ S).map (gw_V ad') = (rv.map (gw_V ad')).toList ++ S.map (gw_V ad) := by
      rw [List.map_append, gw_map_ad had hv]
      cases rv <;> rfl
    rw [e3] at hg
    obtain ⟨t2, a1, b1⟩ := hg T' rfl X'
    exact ⟨t2, st t2 a1, b1⟩
  · exact hp.elim
theorem l_callV {bb : Nat} {l : Launch} {K : gw_K} {X : gw_X} {cc : ByteArray} {own : String} {F Lo MC MS pc : Nat} {L : List (Option Value)} {S S0 : List Value} {h : gw_H} {n kc ks : Nat} {M : gw_M} {idx np mc ms : Nat} {Post : Option Value → gw_H → Nat → Prop} {As : List Value} {b ci : Nat} {fs : List Value}  (hX : FX l K X cc own F Lo MC MS) (hd : decode cc pc = .ok (.invokevirtual idx, 3)) (hM : CLb M np) (hl : Cond.methodLink own idx M.1 ∈ lw_tbl) (hi : Cond.instanceMethod M.1 ∈ lw_tbl) (hsel : Cond.selects M.1.cls M.1 M.1 ∈ lw_tbl) (hnp : As.length = np) (hS0 : S0 = As.reverse ++ .ref b :: S) (ho : h b = oB ci fs) (hci : ∃ r, vwCl[ci]? = some r ∧ r.1 = M.1.cls) (hctr : Ctr l K M (.ref b :: As) h n mc ms Post PX0) (hF : M.2.2.2.2.1 + 1 ≤ F) (hLo : 8 + (M.2.2.1 + 11) + M.2.2.2.2.2 ≤ Lo) (hC : kc + mc ≤ MC) (hCs : ks + ms ≤ MS) (hst8 : (S.map fun v => v.category).sum ≤ 8) (kk : ∀ (rv : Option Value) (h' : gw_H) (n' : Nat), n ≤ n' → Post rv h' n' → GL X bb (pc + 3) L (rv.toList ++ S) h' n' (kc + mc) (ks + ms)) : GL X bb pc L S0 h n kc ks := by
  obtain ⟨p, l1, e, R, s, m, args, below, meth, c, A, Q, K1, ad0, n0⟩ := X
  obtain ⟨hx, hb, hown, hts, hK, hA, hsp, hz, rfl, rfl, rfl, hst, hlk⟩ := hX
  intro ad H locs ls hR hS ha hn hL h0 hv
  have hbn : b < n := hv _ (by rw [hS0]; exact List.mem_append_right _ List.mem_cons_self) b rfl
  have hokA : ∀ v ∈ (.ref b :: As), gw_ok n v := gw_cs (gw_ref hbn) fun v hvv => hv v (by rw [hS0]; exact List.mem_append_left _ (List.mem_reverse.mpr hvv))
  have hokS : ∀ v ∈ S, gw_ok n v := fun v hvv => hv v (by rw [hS0]; exact List.mem_append_right _ (List.mem_cons_of_mem _ hvv))
  obtain ⟨r, hr1, hr2⟩ := hci
  have hrecv := va_recv hK hR.1 hr1 (gw_at (K := K1) (ad := ad) hbn ho)
  rw [hr2] at hrecv
  have hpre := gw_pre hR hS hA hK hsp hz hokA
  have hstk : S0.map (gw_V ad) = (As.map (gw_V ad)).reverse ++ .ref (ad b) :: S.map (gw_V ad) := by rw [hS0, List.map_append, List.map_reverse]; rfl
  refine gl_run (L := L) (S := S) (vx_runV (As := As.map (gw_V ad)) ⟨hx, hb, rfl, hown, vx_n⟩ (hctr ad H.size) ⟨gw_cb hts hM (hts _ hl rfl) hF hLo, hts _ hi rfl, hts _ hsel rfl⟩ ⟨gw_P.blind, hrecv, hpre⟩ rfl (by rw [List.length_map]; exact hnp) hL.1 hstk (by show 2 * 0 + ((S.map (gw_V ad)).map fun v => v.category).sum ≤ 8; rw [gw_cats]; omega) hd ⟨hC, hCs⟩) hR hS hA ha hn hL h0 hokS kk
theorem l_callI {bb : Nat} {l : Launch} {K : gw_K} {X : gw_X} {cc : ByteArray} {own : String} {F Lo MC MS pc : Nat} {L : List (Option Value)} {S S0 : List Value} {h : gw_H} {n kc ks : Nat} {M : gw_M} {idx np mc ms : Nat} {Post : Option Value → gw_H → Nat → Prop} {As : List Value} {b : Nat} (hX : FX l K X cc own F Lo MC MS) (hd : decode cc pc = .ok (.invokespecial idx, 3)) (hM : CLb M np) (hl : Cond.methodLink own idx M.1 ∈ lw_tbl) (hi : Cond.instanceMethod M.1 ∈ lw_tbl) (hret : M.2.2.2.1 = none) (hnm : M.1.name = "<init>") (hnp : As.length = np) (hS0 : S0 = As.reverse ++ .ref b :: S) (hctr : Ctr l K M (.ref b :: As) h n mc ms Post PX0) (hF : M.2.2.2.2.1 + 1 ≤ F) (hLo : 8 + (M.2.2.1 + 11) + M.2.2.2.2.2 ≤ Lo) (hC : kc + mc ≤ MC) (hCs : ks + ms ≤ MS) (hst8 : (S.map fun v => v.category).sum ≤ 8) (kk : ∀ (rv : Option Value) (h' : gw_H) (n' : Nat), n ≤ n' → Post rv h' n' → GL X bb (pc + 3) L (rv.toList ++ S) h' n' (kc + mc) (ks + ms)) : GL X bb pc L S0 h n kc ks := by
  obtain ⟨p, l1, e, R, s, m, args, below, meth, c, A, Q, K1, ad0, n0⟩ := X
  obtain ⟨hx, hb, hown, hts, hK, hA, hsp, hz, rfl, rfl, rfl, hst, hlk⟩ := hX
  intro ad H locs ls hR hS ha hn hL h0 hv
  have hbn : b < n := hv _ (by rw [hS0]; exact List.mem_append_right _ List.mem_cons_self) b rfl
  have hokA : ∀ v ∈ (.ref b :: As), gw_ok n v := gw_cs (gw_ref hbn) fun v hvv => hv v (by rw [hS0]; exact List.mem_append_left _ (List.mem_reverse.mpr hvv))
  have hokS : ∀ v ∈ S, gw_ok n v := fun v hvv => hv v (by rw [hS0]; exact List.mem_append_right _ (List.mem_cons_of_mem _ hvv))
  have hpre := gw_pre hR hS hA hK hsp hz hokA
  have hstk : S0.map (gw_V ad) = (As.map (gw_V ad)).reverse ++ .ref (ad b) :: S.map (gw_V ad) := by rw [hS0, List.map_append, List.map_reverse]; rfl
  obtain ⟨y, bytes, maxL, ret, fr, lo⟩ := M
  cases hret
  refine gl_run (L := L) (S := S) (vx_runI (As := As.map (gw_V ad)) ⟨hx, hb, rfl, hown, vx_n⟩ (hctr ad H.size) ⟨gw_cb hts hM (hts _ hl rfl) hF hLo, hnm, hts _ hi rfl⟩ ⟨gw_P.blind, hpre⟩ rfl (by rw [List.length_map]; exact hnp) hL.1 hstk (by show 2 * 0 + ((S.map (gw_V ad)).map fun v => v.category).sum ≤ 8; rw [gw_cats]; omega) hd ⟨hC, hCs⟩) hR hS hA ha hn hL h0 hokS kk
def CLbH (M : gw_M) (hh : gw_T) (np : Nat) : Prop := Cond.codeWith M.1 M.2.1 M.2.2.1 M.2.2.2.1 hh ∈ lw_tbl ∧ Cond.initialized M.1.cls ∈ lw_tbl ∧ (M.1.cls ≠ "java/lang/invoke/MethodHandle" ∧ M.1.cls ≠ "java/lang/invoke/VarHandle") ∧ (parseMethodDescriptor M.1.desc).map (fun d => d.parameters.length) = some np
theorem gw_cSH {R : Room} {s : State} {args : Array Value} {own : String} {idx : Nat} {M : gw_M} {hh : gw_T} {np mc ms : Nat} (hts : ∀ w ∈ lw_tbl, goodWord w = true → w.before args s = true) (hM : CLbH M hh np) (hl : (Cond.methodLink own idx M.1).before args s = true) (hst : (Cond.static M.1).before args s = true) (hF : M.2.2.2.2.1 + 1 ≤ R.frames) (hLo : 8 + (M.2.2.1 + 11) + M.2.2.2.2.2 ≤ R.locals) :
    vx_CSW R s args own idx M.1 M.2.1 M.2.2.1 M.2.2.2.1 hh (gw_wH M hh) { frames := M.2.2.2.2.1, cells := mc, slots := ms, locals := M.2.2.2.2.2 } mc ms np := by
  obtain ⟨h1, h2, h3, h4⟩ := hM
  refine ⟨⟨rfl, rfl, hF, hLo, fun w hw a' U hW => ?_, List.mem_cons_self⟩, hts _ h1 rfl, hts _ h2 rfl, h3, fun sig hs => ?_, hl, hst⟩
  · rcases List.mem_cons.mp hw with rfl | hw
    · exact word_at hW (good_of_word rfl) (hts _ h1 rfl)
    · obtain ⟨g1, g2⟩ := List.mem_filter.mp hw
      exact word_at hW (good_of_word g2) (hts w g1 g2)
  · rw [hs] at h4
    exact (Option.some.inj h4).symm
theorem l_callSH {hh : gw_T} {bb : Nat} {l : Launch} {K : gw_K} {X : gw_X} {cc : ByteArray} {own : String} {F Lo MC MS pc : Nat} {L : List (Option Value)} {S S0 : List Value} {h : gw_H} {n kc ks : Nat} {M : gw_M} {idx np mc ms : Nat} {Post : Option Value → gw_H → Nat → Prop} {As : List Value} (hX : FX l K X cc own F Lo MC MS) (hd : decode cc pc = .ok (.invokestatic idx, 3)) (hM : CLbH M hh np) (hl : Cond.methodLink own idx M.1 ∈ lw_tbl) (hi : Cond.static M.1 ∈ lw_tbl) (hnp : As.length = np) (hS0 : S0 = As.reverse ++ S) (hctr : CtrH l K M hh As h n mc ms Post PX0) (hF : M.2.2.2.2.1 + 1 ≤ F) (hLo : 8 + (M.2.2.1 + 11) + M.2.2.2.2.2 ≤ Lo) (hC : kc + mc ≤ MC) (hCs : ks + ms ≤ MS) (hst8 : (S.map fun v => v.category).sum ≤ 8) (kk : ∀ (rv : Option Value) (h' : gw_H) (n' : Nat), n ≤ n' → Post rv h' n' → GL X bb (pc + 3) L (rv.toList ++ S) h' n' (kc + mc) (ks + ms)) : GL X bb pc L S0 h n kc ks := by
  obtain ⟨p, l1, e, R, s, m, args, below, meth, c, A, Q, K1, ad0, n0⟩ := X
  obtain ⟨hx, hb, hown, hts, hK, hA, hsp, hz, rfl, rfl, rfl, hst, hlk⟩ := hX
  intro ad H locs ls hR hS ha hn hL h0 hv
  have hokA : ∀ v ∈ As, gw_ok n v := fun v hvv => hv v (by rw [hS0]; exact List.mem_append_left _ (List.mem_reverse.mpr hvv))
  have hokS : ∀ v ∈ S, gw_ok n v := fun v hvv => hv v (by rw [hS0]; exact List.mem_append_right _ hvv)
  have hpre := gw_pre hR hS hA hK hsp hz hokA
  have hstk : S0.map (gw_V ad) = (As.map (gw_V ad)).reverse ++ S.map (gw_V ad) := by rw [hS0, List.map_append, List.map_reverse]
  refine gl_run (L := L) (S := S) (vx_runSX (As := As.map (gw_V ad)) ⟨hx, hb, rfl, hown, vx_n⟩ (hctr ad H.size) (gw_cSH hts hM (hts _ hl rfl) (hts _ hi rfl) hF hLo) ⟨gw_P.blind, hpre⟩ rfl (by rw [List.length_map]; exact hnp) hL.1 hstk (by show 2 * 0 + ((S.map (gw_V ad)).map fun v => v.category).sum ≤ 8; rw [gw_cats]; omega) hd ⟨hC, hCs⟩) hR hS hA ha hn hL h0 hokS kk
theorem l_sc0 {l : Launch} {K : gw_K} {X : gw_X} {cc : ByteArray} {own : String} {F Lo MC MS pc bb Ls : Nat} {xs : Nat → Int32} {L : List (Option Value)} {S : List Value} {h : gw_H} {n kc ks i : Nat} (hX : FX l K X cc own F Lo MC MS) (hSX : SX X bb Ls xs) (hi : i < Ls) (hLs : Ls < 2147483648) (d0 : decode cc pc = .ok (.aload_n 0, 1)) (d1 : decode cc (pc + 1) = .ok (.iload 4, 2)) (d3 : decode cc (pc + 3) = .ok (.iaload, 1)) (hl : L[4]? = some (some (.int (nI i)))) (k : GL X bb (pc + 4) L (.int (xs i) :: S) h n kc ks) : GL X bb pc L S h n kc ks := by
  obtain ⟨p, l1, e, R, s, m, args, below, meth, c, A, Q, K1, ad0, n0⟩ := X
  obtain ⟨hx, hb, hown, hts, hK, hA, hsp, hz, rfl, rfl, rfl, hst, hlk⟩ := hX
  obtain ⟨hXx, hbl, hbA⟩ := hSX
  intro ad H locs ls hR hS ha hn hL h0 hv
  refine lv_aload_n hx hb d0 rfl h0 ?_
  refine lv_iload hx hb d1 (hL.2.2.2 _ _ hl).1 ?_
  refine va_sld hx hb hXx hbl hbA hS (i := nI i) (vp_in_nI hi hLs) d3 ?_
  rw [nI_clamp (by omega)]
  exact k ad H locs ls hR hS ha hn hL h0 (gw_cs (gw_int n _) hv)
theorem l_sck {l : Launch} {K : gw_K} {X : gw_X} {cc : ByteArray} {own : String} {F Lo MC MS pc bb Ls : Nat} {xs : Nat → Int32} {L : List (Option Value)} {S : List Value} {h : gw_H} {n kc ks i : Nat} (hX : FX l K X cc own F Lo MC MS) (hSX : SX X bb Ls xs) {q : Nat} {nn : Int} (hi : i + q < Ls) (hLs : Ls < 2147483648) (d0 : decode cc pc = .ok (.aload_n 0, 1)) (d1 : decode cc (pc + 1) = .ok (.iload 4, 2)) (d3 : decode cc (pc + 3) = .ok (.iconst nn, 1)) (hc : Int32.ofInt nn = nI q) (d4 : decode cc (pc + 4) = .ok (.iadd, 1)) (d5 : decode cc (pc + 5) = .ok (.iaload, 1)) (hl : L[4]? = some (some (.int (nI i)))) (k : GL X bb (pc + 6) L (.int (xs (i + q)) :: S) h n kc ks) : GL X bb pc L S h n kc ks := by
  obtain ⟨p, l1, e, R, s, m, args, below, meth, c, A, Q, K1, ad0, n0⟩ := X
  obtain ⟨hx, hb, hown, hts, hK, hA, hsp, hz, rfl, rfl, rfl, hst, hlk⟩ := hX
  obtain ⟨hXx, hbl, hbA⟩ := hSX
  intro ad H locs ls hR hS ha hn hL h0 hv
  refine lv_aload_n hx hb d0 rfl h0 ?_
  refine lv_iload hx hb d1 (hL.2.2.2 _ _ hl).1 ?_
  refine lv_iconst (v := nI q) hx hb d3 hc ?_
  refine lv_iadd hx hb d4 ?_
  show W _ _ _ _ _ _ _ _ _ _ _ _ _ _ _ (F0 _ _ ls (.int (nI i + nI q) :: .ref bb :: S.map (gw_V ad)))
  rw [nI_add]
  refine va_sld hx hb hXx hbl hbA hS (i := nI (i + q)) (vp_in_nI hi hLs) d5 ?_
  rw [nI_clamp (by omega)]
  exact k ad H locs ls hR hS ha hn hL h0 (gw_cs (gw_int n _) hv)
theorem l_sln {l : Launch} {K : gw_K} {X : gw_X} {cc : ByteArray} {own : String} {F Lo MC MS pc bb Ls : Nat} {xs : Nat → Int32} {L : List (Option Value)} {S : List Value} {h : gw_H} {n kc ks i : Nat} (hX : FX l K X cc own F Lo MC MS) (hSX : SX X bb Ls xs) (d0 : decode cc pc = .ok (.aload_n 0, 1)) (d1 : decode cc (pc + 1) = .ok (.arraylength, 1)) (k : GL X bb (pc + 2) L (.int (nI Ls) :: S) h n kc ks) : GL X bb pc L S h n kc ks := by
  obtain ⟨p, l1, e, R, s, m, args, below, meth, c, A, Q, K1, ad0, n0⟩ := X
  obtain ⟨hx, hb, hown, hts, hK, hA, hsp, hz, rfl, rfl, rfl, hst, hlk⟩ := hX
  obtain ⟨hXx, hbl, hbA⟩ := hSX
  intro ad H locs ls hR hS ha hn hL h0 hv
  refine lv_aload_n hx hb d0 rfl h0 ?_
  refine va_slen hx hb hXx hbl hbA hS d1 ?_
  exact k ad H locs ls hR hS ha hn hL h0 (gw_cs (gw_int n _) hv)
theorem l_kill (i : Nat) {X : gw_X} {bb pc : Nat} {L : List (Option Value)} {S : List Value} {h : gw_H} {n kc ks : Nat} (k : GL X bb pc (L.set i none) S h n kc ks) : GL X bb pc L S h n kc ks := by
  obtain ⟨p, l1, e, R, s, m, args, below, meth, c, A, Q, K1, ad0, n0⟩ := X
  intro ad H locs ls hR hS ha hn hL h0 hv
  refine k ad H locs ls hR hS ha hn ⟨hL.1, hL.2.1, by rw [List.length_set]; exact hL.2.2.1, fun j v hj => ?_⟩ h0 hv
  rw [List.getElem?_set] at hj
  split at hj
  · split at hj <;> cases hj
  · exact hL.2.2.2 j v hj
theorem lg_self (x : Int64) : lg_cmp x x = 0 := by
  unfold lg_cmp
  rw [if_neg (by simp), if_pos rfl]
set_option maxRecDepth 20000 in
theorem ch_L_ringer : CLbH mL_ringer hhL_ringer 5 := ⟨cw_L_ringer, t1 (List.mem_of_getElem? (i := 0) rfl), ⟨by decide +kernel, by decide +kernel⟩, by decide +kernel⟩
set_option maxRecDepth 20000 in
theorem ch_L_vote : CLbH mL_vote hhL_vote 4 := ⟨cw_L_vote, t1 (List.mem_of_getElem? (i := 0) rfl), ⟨by decide +kernel, by decide +kernel⟩, by decide +kernel⟩
set_option maxRecDepth 20000 in
theorem ch_L_seat : CLbH mL_seat hhL_seat 5 := ⟨cw_L_seat, t1 (List.mem_of_getElem? (i := 0) rfl), ⟨by decide +kernel, by decide +kernel⟩, by decide +kernel⟩
set_option maxRecDepth 20000 in
theorem ch_L_elect : CLbH mL_elect hhL_elect 3 := ⟨cw_L_elect, t1 (List.mem_of_getElem? (i := 0) rfl), ⟨by decide +kernel, by decide +kernel⟩, by decide +kernel⟩
set_option maxRecDepth 20000 in
theorem ch_L_put : CLbH mL_put hhL_put 5 := ⟨cw_L_put, t1 (List.mem_of_getElem? (i := 0) rfl), ⟨by decide +kernel, by decide +kernel⟩, by decide +kernel⟩
set_option maxRecDepth 20000 in
theorem ch_L_leave : CLbH mL_leave hhL_leave 3 := ⟨cw_L_leave, t1 (List.mem_of_getElem? (i := 0) rfl), ⟨by decide +kernel, by decide +kernel⟩, by decide +kernel⟩
set_option maxRecDepth 20000 in
theorem ch_L_told : CLbH mL_told hhL_told 4 := ⟨cw_L_told, t1 (List.mem_of_getElem? (i := 0) rfl), ⟨by decide +kernel, by decide +kernel⟩, by decide +kernel⟩
set_option maxRecDepth 20000 in
theorem ch_L_bell : CLbH mL_bell hhL_bell 5 := ⟨cw_L_bell, t1 (List.mem_of_getElem? (i := 0) rfl), ⟨by decide +kernel, by decide +kernel⟩, by decide +kernel⟩
set_option maxRecDepth 20000 in
theorem ch_L_method : CLbH mL_method hhL_method 2 := ⟨cw_L_method, t1 (List.mem_of_getElem? (i := 0) rfl), ⟨by decide +kernel, by decide +kernel⟩, by decide +kernel⟩
set_option maxRecDepth 20000 in
theorem ch_L_add : CLbH mL_add hhL_add 4 := ⟨cw_L_add, t1 (List.mem_of_getElem? (i := 0) rfl), ⟨by decide +kernel, by decide +kernel⟩, by decide +kernel⟩
set_option maxRecDepth 20000 in
theorem ch_L_about : CLbH mL_about hhL_about 4 := ⟨cw_L_about, t1 (List.mem_of_getElem? (i := 0) rfl), ⟨by decide +kernel, by decide +kernel⟩, by decide +kernel⟩
set_option maxRecDepth 20000 in
theorem ch_L_row : CLbH mL_row hhL_row 4 := ⟨cw_L_row, t1 (List.mem_of_getElem? (i := 0) rfl), ⟨by decide +kernel, by decide +kernel⟩, by decide +kernel⟩
set_option maxRecDepth 20000 in
theorem ch_L_dodges : CLbH mL_dodges hhL_dodges 4 := ⟨cw_L_dodges, t1 (List.mem_of_getElem? (i := 0) rfl), ⟨by decide +kernel, by decide +kernel⟩, by decide +kernel⟩
set_option maxRecDepth 20000 in
theorem ch_L_ring : CLbH mL_ring hhL_ring 5 := ⟨cw_L_ring, t1 (List.mem_of_getElem? (i := 0) rfl), ⟨by decide +kernel, by decide +kernel⟩, by decide +kernel⟩
set_option maxRecDepth 20000 in
theorem ch_L_would : CLbH mL_would hhL_would 5 := ⟨cw_L_would, t1 (List.mem_of_getElem? (i := 0) rfl), ⟨by decide +kernel, by decide +kernel⟩, by decide +kernel⟩
set_option maxRecDepth 20000 in
theorem ch_L_advise : CLbH mL_advise hhL_advise 3 := ⟨cw_L_advise, t1 (List.mem_of_getElem? (i := 0) rfl), ⟨by decide +kernel, by decide +kernel⟩, by decide +kernel⟩
set_option maxRecDepth 20000 in
theorem ch_L_count : CLbH mL_count hhL_count 3 := ⟨cw_L_count, t1 (List.mem_of_getElem? (i := 0) rfl), ⟨by decide +kernel, by decide +kernel⟩, by decide +kernel⟩
set_option maxRecDepth 20000 in
theorem ch_L_pass : CLbH mL_pass hhL_pass 3 := ⟨cw_L_pass, t1 (List.mem_of_getElem? (i := 0) rfl), ⟨by decide +kernel, by decide +kernel⟩, by decide +kernel⟩
set_option maxRecDepth 20000 in
theorem ch_L_foresee : CLbH mL_foresee hhL_foresee 5 := ⟨cw_L_foresee, t1 (List.mem_of_getElem? (i := 0) rfl), ⟨by decide +kernel, by decide +kernel⟩, by decide +kernel⟩
