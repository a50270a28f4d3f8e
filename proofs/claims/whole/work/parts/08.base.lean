/-! loops, numbers, branches over numbers -/
def itr {σ : Type} (f : Nat → σ → σ) : Nat → σ → σ
  | 0, s => s
  | k + 1, s => f k (itr f k s)
theorem g_for {σ : Type} {P : Nat → σ → Prop} {step : Nat → σ → σ} (N : Nat) (s0 : σ) (hb : ∀ i s, i < N → s = itr step i s0 → P (i + 1) (step i s) → P i s) (hx : P N (itr step N s0)) : P 0 s0 := by
  have h : ∀ k, k ≤ N → P (N - k) (itr step (N - k) s0) := by
    intro k
    induction k with
    | zero => intro _; exact hx
    | succ k ih =>
      intro hk
      have h1 := ih (by omega)
      have e : N - k = (N - (k + 1)) + 1 := by omega
      rw [e] at h1
      exact hb _ _ (by omega) rfl h1
  have h1 := h N (Nat.le_refl N)
  rw [Nat.sub_self] at h1
  exact h1
theorem g_cg {X : gw_X} {pc : Nat} {L L' : List (Option Value)} {S : List Value} {h h' : gw_H} {n kc ks : Nat} (hL : L = L') (hh : h = h') (k : GW X pc L' S h' n kc ks) : GW X pc L S h n kc ks := by subst hL; subst hh; exact k
theorem g_cv {X : gw_X} {pc : Nat} {L L' : List (Option Value)} {S : List Value} {h h' : gw_H} {n kc ks : Nat} (k : GW X pc L S h n kc ks) (hL : L' = L) (hh : h' = h) : GW X pc L' S h' n kc ks := by subst hL; subst hh; exact k
theorem g_top {X : gw_X} {pc : Nat} {L : List (Option Value)} {v v' : Value} {S : List Value} {h : gw_H} {n kc ks : Nat} (hv : v = v') (k : GW X pc L (v' :: S) h n kc ks) : GW X pc L (v :: S) h n kc ks := by subst hv; exact k
theorem gn_inc (a c : Nat) : nI a + Int32.ofInt (c : Int) = nI (a + c) := by
  rw [← nI_add]
  congr 1
theorem gn_z {p : Prop} [Decidable p] : narrow .boolean (.int (if p then nI 1 else nI 0)) = .int (if p then nI 1 else nI 0) := by split <;> rfl
theorem hs_hs {h : gw_H} {k : Nat} {a b : gw_E} : hs (hs h k a) k b = hs h k b := by
  funext j; unfold hs; split <;> rfl
theorem hs_cm (h : gw_H) (a b : gw_E) {k j : Nat} (hkj : k < j) : hs (hs h j b) k a = hs (hs h k a) j b := by
  funext i; unfold hs
  by_cases h1 : i = k
  · subst h1; rw [if_pos rfl, if_neg (by omega), if_pos rfl]
  · rw [if_neg h1, if_neg h1]
theorem hs_id {h : gw_H} {k : Nat} {e : gw_E} (he : h k = e) : hs h k e = h := by
  funext j; unfold hs
  split
  · next q => rw [q, he]
  · rfl
/-- one answer, one heap -/
def PQ (r : Option Value) (H : gw_H) (N : Nat) : Option Value → gw_H → Nat → Prop := fun rv h' n' => rv = r ∧ h' = H ∧ n' = N
theorem pq {X : gw_X} {pc n N kc ks : Nat} {L : List (Option Value)} {S : List Value} {r : Option Value} {H : gw_H} (k : GW X pc L (r.toList ++ S) H N kc ks) : ∀ (rv : Option Value) (h' : gw_H) (n' : Nat), n ≤ n' → PQ r H N rv h' n' → GW X pc L (rv.toList ++ S) h' n' kc ks := by
  rintro _ _ _ - ⟨rfl, rfl, rfl⟩
  exact k
def PXQ (E : String) (H : gw_H) (N : Nat) : String → gw_H → Nat → Prop := fun E' h' n' => E' = E ∧ h' = H ∧ n' = N
theorem px {X : gw_X} {pc n N kc ks : Nat} {L : List (Option Value)} {E : String} {H : gw_H} (k : GX X pc L E H N kc ks) : ∀ (E' : String) (h' : gw_H) (n' : Nat), n ≤ n' → PXQ E H N E' h' n' → GX X pc L E' h' n' kc ks := by
  rintro _ _ _ - ⟨rfl, rfl, rfl⟩
  exact k
theorem g_loop {P : Nat → Prop} (I : Nat → Prop) (N : Nat) (h0 : I 0) (hb : ∀ i, i < N → I i → (I (i + 1) → P (i + 1)) → P i) (hx : I N → P N) : P 0 := by
  have h : ∀ k, k ≤ N → I (N - k) → P (N - k) := by
    intro k
    induction k with
    | zero => intro _; exact hx
    | succ k ih =>
      intro hk hI
      have h1 := ih (by omega)
      have e : N - k = (N - (k + 1)) + 1 := by omega
      rw [e] at h1
      exact hb _ (by omega) hI h1
  have h1 := h N (Nat.le_refl N)
  rw [Nat.sub_self] at h1
  exact h1 h0
/-- cells that hold the same -/
def ceq (e e' : gw_E) : Prop := e = e' ∨ (∃ (len : Nat) (f g : Nat → Int32), e = aI len f ∧ e' = aI len g ∧ ∀ k, k < len → f k = g k) ∨ ∃ (len : Nat) (f g : Nat → Int64), e = aJ len f ∧ e' = aJ len g ∧ ∀ k, k < len → f k = g k
theorem ceq_r {e : gw_E} : ceq e e := Or.inl rfl
theorem ceq_I {len : Nat} {f g : Nat → Int32} (h : ∀ k, k < len → f k = g k) : ceq (aI len f) (aI len g) := Or.inr (Or.inl ⟨len, f, g, rfl, rfl, h⟩)
theorem ceq_J {len : Nat} {f g : Nat → Int64} (h : ∀ k, k < len → f k = g k) : ceq (aJ len f) (aJ len g) := Or.inr (Or.inr ⟨len, f, g, rfl, rfl, h⟩)
theorem ceq_hs {h h' : gw_H} {a : Nat} {e e' : gw_E} (hh : ∀ j, ceq (h j) (h' j)) (he : ceq e e') : ∀ j, ceq (hs h a e j) (hs h' a e' j) := fun j => by
  unfold hs
  split
  · exact he
  · exact hh j
theorem ceq_at {K : gw_K} {ad : Nat → Nat} {D : va_G} {cl : List vw_C} {q : Nat} {e e' : gw_E} (he : ceq e e') {H : Heap} (h : va_at D cl (q, gw_tr K ad e) H) : va_at D cl (q, gw_tr K ad e') H := by
  rcases he with rfl | ⟨len, f, g, rfl, rfl, hfg⟩ | ⟨len, f, g, rfl, rfl, hfg⟩
  · exact h
  · have e1 : arrV K.2.1 len (fun j => Value.int (f j)) = arrV K.2.1 len (fun j => Value.int (g j)) := by
      unfold arrV
      congr 2
      funext j
      show Value.int (f j.val) = Value.int (g j.val)
      rw [hfg j.val j.isLt]
    show H[q]? = some (arrV K.2.1 len (fun i => Value.int (g i)))
    rw [← e1]; exact h
  · have e1 : arrV K.2.2.1 len (fun j => Value.long (f j)) = arrV K.2.2.1 len (fun j => Value.long (g j)) := by
      unfold arrV
      congr 2
      funext j
      show Value.long (f j.val) = Value.long (g j.val)
      rw [hfg j.val j.isLt]
    show H[q]? = some (arrV K.2.2.1 len (fun i => Value.long (g i)))
    rw [← e1]; exact h
theorem ceq_ok {n : Nat} {e e' : gw_E} (he : ceq e e') (h : gw_oke n e) : gw_oke n e' := by
  rcases he with rfl | ⟨len, f, g, rfl, rfl, hfg⟩ | ⟨len, f, g, rfl, rfl, hfg⟩
  · exact h
  · trivial
  · trivial
theorem gw_R.ceq {K : gw_K} {ad : Nat → Nat} {n : Nat} {h h' : gw_H} {A : Nat → Prop} {H : Heap} (hh : ∀ j, ceq (h j) (h' j)) (hR : gw_R K ad n h A H) : gw_R K ad n h' A H := by
  obtain ⟨h1, h2, h3⟩ := hR
  have hat : ∀ (j : Nat) (q : Nat × va_E), (gw_ws K ad n h')[j]? = some q → (gw_ws K ad n h)[j]? = some (q.1, gw_tr K ad (h j)) ∧ q = (q.1, gw_tr K ad (h' j)) := fun j q hq => by
    obtain ⟨hj, rfl⟩ := gw_ws_lt hq
    exact ⟨gw_ws_at hj, rfl⟩
  refine ⟨fun j q hq => ?_, ⟨fun i j p q hi hj he => ?_, fun j q hq => ?_⟩, fun j hj => ceq_ok (hh j) (h3 j hj)⟩
  · obtain ⟨g1, g2⟩ := hat j q hq
    rw [g2]
    exact ceq_at (hh j) (h1 j _ g1)
  · exact h2.1 i j (p.1, gw_tr K ad (h i)) (q.1, gw_tr K ad (h j)) (hat i p hi).1 (hat j q hj).1 he
  · exact h2.2 j (q.1, gw_tr K ad (h j)) (hat j q hq).1
theorem g_heq {X : gw_X} {pc : Nat} {L : List (Option Value)} {S : List Value} {h h' : gw_H} {n kc ks : Nat} (hh : ∀ j, ceq (h j) (h' j)) (k : GW X pc L S h' n kc ks) : GW X pc L S h n kc ks := by
  obtain ⟨p, l1, e, R, s, m, args, below, meth, c, A, Q, K1, ad0, n0⟩ := X
  intro ad H locs ls hR hS ha hn hL hv
  exact k ad H locs ls (hR.ceq hh) hS ha hn hL hv
/-- an array's cell by what its places hold -/
theorem g_ext {X : gw_X} {pc : Nat} {L : List (Option Value)} {S : List Value} {h : gw_H} {n kc ks a len : Nat} {f g : Nat → Int32} (hfg : ∀ k, k < len → f k = g k) (k : GW X pc L S (hs h a (aI len g)) n kc ks) : GW X pc L S (hs h a (aI len f)) n kc ks := g_heq (ceq_hs (fun _ => ceq_r) (ceq_I hfg)) k
theorem g_extL {X : gw_X} {pc : Nat} {L : List (Option Value)} {S : List Value} {h : gw_H} {n kc ks a len : Nat} {f g : Nat → Int64} (hfg : ∀ k, k < len → f k = g k) (k : GW X pc L S (hs h a (aJ len g)) n kc ks) : GW X pc L S (hs h a (aJ len f)) n kc ks := g_heq (ceq_hs (fun _ => ceq_r) (ceq_J hfg)) k
theorem gn_cpy {f g : Nat → Int32} {N k : Nat} (hk : k < N) : va_cpy f g 0 0 N k = f k := by
  unfold va_cpy
  rw [if_pos ⟨Nat.zero_le _, by omega⟩]
  congr 1
  omega
theorem hs_cgI {h : gw_H} {a z : Nat} {f g : Nat → Int32} (e : f = g) : hs h a (aI z f) = hs h a (aI z g) := by rw [e]
theorem hs_cgJ {h : gw_H} {a z : Nat} {f g : Nat → Int64} (e : f = g) : hs h a (aJ z f) = hs h a (aJ z g) := by rw [e]
/-- a local that is not looked at any more -/
theorem g_kill (i : Nat) {X : gw_X} {pc : Nat} {L : List (Option Value)} {S : List Value} {h : gw_H} {n kc ks : Nat} (k : GW X pc (L.set i none) S h n kc ks) : GW X pc L S h n kc ks := by
  obtain ⟨p, l1, e, R, s, m, args, below, meth, c, A, Q, K1, ad0, n0⟩ := X
  intro ad H locs ls hR hS ha hn hL hv
  refine k ad H locs ls hR hS ha hn ⟨hL.1, hL.2.1, by rw [List.length_set]; exact hL.2.2.1, fun j v hj => ?_⟩ hv
  rw [List.getElem?_set] at hj
  split at hj
  · split at hj <;> cases hj
  · exact hL.2.2.2 j v hj

theorem gn_eq {a b : Nat} (h : a < 2147483648 ∧ b < 2147483648) : nI a = nI b ↔ a = b := nI_eq (by omega) (by omega)
theorem gn_lt {a b : Nat} (h : a < 2147483648 ∧ b < 2147483648) : nI a < nI b ↔ a < b := nI_ltI (by omega) (by omega)
theorem gn_le {a b : Nat} (h : a < 2147483648 ∧ b < 2147483648) : nI a ≤ nI b ↔ a ≤ b := nI_leI (by omega) (by omega)
theorem gn_ile {x y : Int32} : ¬ x < y ↔ y ≤ x := by rw [Int32.not_lt]
theorem gn_ilt {x y : Int32} : ¬ x ≤ y ↔ y < x := by rw [Int32.not_le]
theorem g_icmp_eqN {l : Launch} {K : gw_K} {X : gw_X} {cc : ByteArray} {own : String} {F Lo MC MS pc : Nat} {L : List (Option Value)} {S : List Value} {h : gw_H} {n kc ks : Nat} {a b : Nat} {off : Int} {tgt : Nat} (hX : FX l K X cc own F Lo MC MS) (hd : decode cc pc = .ok (.if_icmp .eq off, 3)) (ht : (pc : Int) + off = (tgt : Int)) (hab : a < 2147483648 ∧ b < 2147483648) (kt : a = b → GW X tgt L S h n kc ks) (kf : ¬ a = b → GW X (pc + 3) L S h n kc ks) : GW X pc L (.int (nI b) :: .int (nI a) :: S) h n kc ks :=
  g_icmp_eq hX hd ht (fun q => kt ((gn_eq hab).mp q)) (fun q => kf (fun z => q ((gn_eq hab).mpr z)))
theorem g_if_eqN {l : Launch} {K : gw_K} {X : gw_X} {cc : ByteArray} {own : String} {F Lo MC MS pc : Nat} {L : List (Option Value)} {S : List Value} {h : gw_H} {n kc ks : Nat} {a : Nat} {off : Int} {tgt : Nat} (hX : FX l K X cc own F Lo MC MS) (hd : decode cc pc = .ok (.ifCond .eq off, 3)) (ht : (pc : Int) + off = (tgt : Int)) (hab : a < 2147483648) (kt : a = 0 → GW X tgt L S h n kc ks) (kf : ¬ a = 0 → GW X (pc + 3) L S h n kc ks) : GW X pc L (.int (nI a) :: S) h n kc ks := by
  have hab : a < 2147483648 ∧ 0 < 2147483648 := ⟨hab, by omega⟩
  exact g_if_eq hX hd ht (fun q => kt ((gn_eq hab).mp q)) (fun q => kf (fun z => q ((gn_eq hab).mpr z)))
theorem g_icmp_neN {l : Launch} {K : gw_K} {X : gw_X} {cc : ByteArray} {own : String} {F Lo MC MS pc : Nat} {L : List (Option Value)} {S : List Value} {h : gw_H} {n kc ks : Nat} {a b : Nat} {off : Int} {tgt : Nat} (hX : FX l K X cc own F Lo MC MS) (hd : decode cc pc = .ok (.if_icmp .ne off, 3)) (ht : (pc : Int) + off = (tgt : Int)) (hab : a < 2147483648 ∧ b < 2147483648) (kt : ¬ a = b → GW X tgt L S h n kc ks) (kf : a = b → GW X (pc + 3) L S h n kc ks) : GW X pc L (.int (nI b) :: .int (nI a) :: S) h n kc ks :=
  g_icmp_ne hX hd ht (fun q => kt (fun z => q ((gn_eq hab).mpr z))) (fun q => kf ((gn_eq hab).mp q))
theorem g_if_neN {l : Launch} {K : gw_K} {X : gw_X} {cc : ByteArray} {own : String} {F Lo MC MS pc : Nat} {L : List (Option Value)} {S : List Value} {h : gw_H} {n kc ks : Nat} {a : Nat} {off : Int} {tgt : Nat} (hX : FX l K X cc own F Lo MC MS) (hd : decode cc pc = .ok (.ifCond .ne off, 3)) (ht : (pc : Int) + off = (tgt : Int)) (hab : a < 2147483648) (kt : ¬ a = 0 → GW X tgt L S h n kc ks) (kf : a = 0 → GW X (pc + 3) L S h n kc ks) : GW X pc L (.int (nI a) :: S) h n kc ks := by
  have hab : a < 2147483648 ∧ 0 < 2147483648 := ⟨hab, by omega⟩
  exact g_if_ne hX hd ht (fun q => kt (fun z => q ((gn_eq hab).mpr z))) (fun q => kf ((gn_eq hab).mp q))
theorem g_icmp_ltN {l : Launch} {K : gw_K} {X : gw_X} {cc : ByteArray} {own : String} {F Lo MC MS pc : Nat} {L : List (Option Value)} {S : List Value} {h : gw_H} {n kc ks : Nat} {a b : Nat} {off : Int} {tgt : Nat} (hX : FX l K X cc own F Lo MC MS) (hd : decode cc pc = .ok (.if_icmp .lt off, 3)) (ht : (pc : Int) + off = (tgt : Int)) (hab : a < 2147483648 ∧ b < 2147483648) (kt : a < b → GW X tgt L S h n kc ks) (kf : b ≤ a → GW X (pc + 3) L S h n kc ks) : GW X pc L (.int (nI b) :: .int (nI a) :: S) h n kc ks :=
  g_icmp_lt hX hd ht (fun q => kt ((gn_lt hab).mp q)) (fun q => kf (Nat.not_lt.mp fun z => q ((gn_lt hab).mpr z)))
theorem g_if_ltN {l : Launch} {K : gw_K} {X : gw_X} {cc : ByteArray} {own : String} {F Lo MC MS pc : Nat} {L : List (Option Value)} {S : List Value} {h : gw_H} {n kc ks : Nat} {a : Nat} {off : Int} {tgt : Nat} (hX : FX l K X cc own F Lo MC MS) (hd : decode cc pc = .ok (.ifCond .lt off, 3)) (ht : (pc : Int) + off = (tgt : Int)) (hab : a < 2147483648) (kt : a < 0 → GW X tgt L S h n kc ks) (kf : 0 ≤ a → GW X (pc + 3) L S h n kc ks) : GW X pc L (.int (nI a) :: S) h n kc ks := by
  have hab : a < 2147483648 ∧ 0 < 2147483648 := ⟨hab, by omega⟩
  exact g_if_lt hX hd ht (fun q => kt ((gn_lt hab).mp q)) (fun q => kf (Nat.not_lt.mp fun z => q ((gn_lt hab).mpr z)))
theorem g_icmp_geN {l : Launch} {K : gw_K} {X : gw_X} {cc : ByteArray} {own : String} {F Lo MC MS pc : Nat} {L : List (Option Value)} {S : List Value} {h : gw_H} {n kc ks : Nat} {a b : Nat} {off : Int} {tgt : Nat} (hX : FX l K X cc own F Lo MC MS) (hd : decode cc pc = .ok (.if_icmp .ge off, 3)) (ht : (pc : Int) + off = (tgt : Int)) (hab : a < 2147483648 ∧ b < 2147483648) (kt : b ≤ a → GW X tgt L S h n kc ks) (kf : a < b → GW X (pc + 3) L S h n kc ks) : GW X pc L (.int (nI b) :: .int (nI a) :: S) h n kc ks :=
  g_icmp_ge hX hd ht (fun q => kt ((gn_le hab.symm).mp q)) (fun q => kf (Nat.not_le.mp fun z => q ((gn_le hab.symm).mpr z)))
theorem g_if_geN {l : Launch} {K : gw_K} {X : gw_X} {cc : ByteArray} {own : String} {F Lo MC MS pc : Nat} {L : List (Option Value)} {S : List Value} {h : gw_H} {n kc ks : Nat} {a : Nat} {off : Int} {tgt : Nat} (hX : FX l K X cc own F Lo MC MS) (hd : decode cc pc = .ok (.ifCond .ge off, 3)) (ht : (pc : Int) + off = (tgt : Int)) (hab : a < 2147483648) (kt : 0 ≤ a → GW X tgt L S h n kc ks) (kf : a < 0 → GW X (pc + 3) L S h n kc ks) : GW X pc L (.int (nI a) :: S) h n kc ks := by
  have hab : a < 2147483648 ∧ 0 < 2147483648 := ⟨hab, by omega⟩
  exact g_if_ge hX hd ht (fun q => kt ((gn_le hab.symm).mp q)) (fun q => kf (Nat.not_le.mp fun z => q ((gn_le hab.symm).mpr z)))
theorem g_icmp_gtN {l : Launch} {K : gw_K} {X : gw_X} {cc : ByteArray} {own : String} {F Lo MC MS pc : Nat} {L : List (Option Value)} {S : List Value} {h : gw_H} {n kc ks : Nat} {a b : Nat} {off : Int} {tgt : Nat} (hX : FX l K X cc own F Lo MC MS) (hd : decode cc pc = .ok (.if_icmp .gt off, 3)) (ht : (pc : Int) + off = (tgt : Int)) (hab : a < 2147483648 ∧ b < 2147483648) (kt : b < a → GW X tgt L S h n kc ks) (kf : a ≤ b → GW X (pc + 3) L S h n kc ks) : GW X pc L (.int (nI b) :: .int (nI a) :: S) h n kc ks :=
  g_icmp_gt hX hd ht (fun q => kt ((gn_lt hab.symm).mp q)) (fun q => kf (Nat.not_lt.mp fun z => q ((gn_lt hab.symm).mpr z)))
theorem g_if_gtN {l : Launch} {K : gw_K} {X : gw_X} {cc : ByteArray} {own : String} {F Lo MC MS pc : Nat} {L : List (Option Value)} {S : List Value} {h : gw_H} {n kc ks : Nat} {a : Nat} {off : Int} {tgt : Nat} (hX : FX l K X cc own F Lo MC MS) (hd : decode cc pc = .ok (.ifCond .gt off, 3)) (ht : (pc : Int) + off = (tgt : Int)) (hab : a < 2147483648) (kt : 0 < a → GW X tgt L S h n kc ks) (kf : a ≤ 0 → GW X (pc + 3) L S h n kc ks) : GW X pc L (.int (nI a) :: S) h n kc ks := by
  have hab : a < 2147483648 ∧ 0 < 2147483648 := ⟨hab, by omega⟩
  exact g_if_gt hX hd ht (fun q => kt ((gn_lt hab.symm).mp q)) (fun q => kf (Nat.not_lt.mp fun z => q ((gn_lt hab.symm).mpr z)))
theorem g_icmp_leN {l : Launch} {K : gw_K} {X : gw_X} {cc : ByteArray} {own : String} {F Lo MC MS pc : Nat} {L : List (Option Value)} {S : List Value} {h : gw_H} {n kc ks : Nat} {a b : Nat} {off : Int} {tgt : Nat} (hX : FX l K X cc own F Lo MC MS) (hd : decode cc pc = .ok (.if_icmp .le off, 3)) (ht : (pc : Int) + off = (tgt : Int)) (hab : a < 2147483648 ∧ b < 2147483648) (kt : a ≤ b → GW X tgt L S h n kc ks) (kf : b < a → GW X (pc + 3) L S h n kc ks) : GW X pc L (.int (nI b) :: .int (nI a) :: S) h n kc ks :=
  g_icmp_le hX hd ht (fun q => kt ((gn_le hab).mp q)) (fun q => kf (Nat.not_le.mp fun z => q ((gn_le hab).mpr z)))
theorem g_if_leN {l : Launch} {K : gw_K} {X : gw_X} {cc : ByteArray} {own : String} {F Lo MC MS pc : Nat} {L : List (Option Value)} {S : List Value} {h : gw_H} {n kc ks : Nat} {a : Nat} {off : Int} {tgt : Nat} (hX : FX l K X cc own F Lo MC MS) (hd : decode cc pc = .ok (.ifCond .le off, 3)) (ht : (pc : Int) + off = (tgt : Int)) (hab : a < 2147483648) (kt : a ≤ 0 → GW X tgt L S h n kc ks) (kf : 0 < a → GW X (pc + 3) L S h n kc ks) : GW X pc L (.int (nI a) :: S) h n kc ks := by
  have hab : a < 2147483648 ∧ 0 < 2147483648 := ⟨hab, by omega⟩
  exact g_if_le hX hd ht (fun q => kt ((gn_le hab).mp q)) (fun q => kf (Nat.not_le.mp fun z => q ((gn_le hab).mpr z)))
theorem g_ifB_eq {l : Launch} {K : gw_K} {X : gw_X} {cc : ByteArray} {own : String} {F Lo MC MS pc : Nat} {L : List (Option Value)} {S : List Value} {h : gw_H} {n kc ks : Nat} {P : Prop} [Decidable P] {off : Int} {tgt : Nat} (hX : FX l K X cc own F Lo MC MS) (hd : decode cc pc = .ok (.ifCond .eq off, 3)) (ht : (pc : Int) + off = (tgt : Int)) (kt : ¬ P → GW X tgt L S h n kc ks) (kf : P → GW X (pc + 3) L S h n kc ks) : GW X pc L (.int (if P then nI 1 else nI 0) :: S) h n kc ks := by
  by_cases hP : P
  · rw [if_pos hP]
    exact g_if_eq hX hd ht (fun q => absurd q (by decide)) (fun _ => kf hP)
  · rw [if_neg hP]
    exact g_if_eq hX hd ht (fun _ => kt hP) (fun q => absurd q (by decide))
theorem g_ifB_ne {l : Launch} {K : gw_K} {X : gw_X} {cc : ByteArray} {own : String} {F Lo MC MS pc : Nat} {L : List (Option Value)} {S : List Value} {h : gw_H} {n kc ks : Nat} {P : Prop} [Decidable P] {off : Int} {tgt : Nat} (hX : FX l K X cc own F Lo MC MS) (hd : decode cc pc = .ok (.ifCond .ne off, 3)) (ht : (pc : Int) + off = (tgt : Int)) (kt : P → GW X tgt L S h n kc ks) (kf : ¬ P → GW X (pc + 3) L S h n kc ks) : GW X pc L (.int (if P then nI 1 else nI 0) :: S) h n kc ks := by
  by_cases hP : P
  · rw [if_pos hP]
    exact g_if_ne hX hd ht (fun _ => kt hP) (fun q => absurd q (by decide))
  · rw [if_neg hP]
    exact g_if_ne hX hd ht (fun q => absurd q (by decide)) (fun _ => kf hP)
theorem g_iaddN {l : Launch} {K : gw_K} {X : gw_X} {cc : ByteArray} {own : String} {F Lo MC MS pc : Nat} {L : List (Option Value)} {S : List Value} {h : gw_H} {n kc ks : Nat} {a b : Nat} (hX : FX l K X cc own F Lo MC MS) (hd : decode cc pc = .ok (.iadd, 1)) (k : GW X (pc + 1) L (.int (nI (a + b)) :: S) h n kc ks) : GW X pc L (.int (nI b) :: .int (nI a) :: S) h n kc ks :=
  g_iadd hX hd (by rw [nI_add a b]; exact k)
theorem g_imulN {l : Launch} {K : gw_K} {X : gw_X} {cc : ByteArray} {own : String} {F Lo MC MS pc : Nat} {L : List (Option Value)} {S : List Value} {h : gw_H} {n kc ks : Nat} {a b : Nat} (hX : FX l K X cc own F Lo MC MS) (hd : decode cc pc = .ok (.imul, 1)) (k : GW X (pc + 1) L (.int (nI (a * b)) :: S) h n kc ks) : GW X pc L (.int (nI b) :: .int (nI a) :: S) h n kc ks :=
  g_imul hX hd (by rw [pk_mul a b]; exact k)
theorem g_isubN {l : Launch} {K : gw_K} {X : gw_X} {cc : ByteArray} {own : String} {F Lo MC MS pc : Nat} {L : List (Option Value)} {S : List Value} {h : gw_H} {n kc ks : Nat} {a b : Nat} (hX : FX l K X cc own F Lo MC MS) (hd : decode cc pc = .ok (.isub, 1)) (hba : b ≤ a) (k : GW X (pc + 1) L (.int (nI (a - b)) :: S) h n kc ks) : GW X pc L (.int (nI b) :: .int (nI a) :: S) h n kc ks :=
  g_isub hX hd (by rw [pk_sub hba]; exact k)
theorem g_idivN {l : Launch} {K : gw_K} {X : gw_X} {cc : ByteArray} {own : String} {F Lo MC MS pc : Nat} {L : List (Option Value)} {S : List Value} {h : gw_H} {n kc ks : Nat} {a b : Nat} (hX : FX l K X cc own F Lo MC MS) (hd : decode cc pc = .ok (.idiv, 1)) (ha : a < 2147483648) (h0 : 0 < b) (hb : b < 2147483648) (k : GW X (pc + 1) L (.int (nI (a / b)) :: S) h n kc ks) : GW X pc L (.int (nI b) :: .int (nI a) :: S) h n kc ks :=
  g_idiv hX hd (nI_ne0 h0 (by omega)) (by rw [pk_div (by omega) h0 (by omega)]; exact k)
theorem g_iremN {l : Launch} {K : gw_K} {X : gw_X} {cc : ByteArray} {own : String} {F Lo MC MS pc : Nat} {L : List (Option Value)} {S : List Value} {h : gw_H} {n kc ks : Nat} {a b : Nat} (hX : FX l K X cc own F Lo MC MS) (hd : decode cc pc = .ok (.irem, 1)) (ha : a < 2147483648) (h0 : 0 < b) (hb : b < 2147483648) (k : GW X (pc + 1) L (.int (nI (a % b)) :: S) h n kc ks) : GW X pc L (.int (nI b) :: .int (nI a) :: S) h n kc ks :=
  g_irem hX hd (nI_ne0 h0 (by omega)) (by rw [pk_rem (by omega) h0 (by omega)]; exact k)
