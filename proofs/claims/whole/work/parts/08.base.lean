/-! loops, numbers, branches over numbers -/
def itr {σ : Type} (f : Nat → σ → σ) : Nat → σ → σ
  | 0, s => s
  | k + 1, s => f k (itr f k s)
theorem g_for {σ : Type} {P : Nat → σ → Prop} {step : Nat → σ → σ} (N : Nat) (s0 : σ) (hb : ∀ i s, i < N → s = itr step i s0 → P (i + 1) (step i s) → P i s) (hx : P N (itr step N s0)) : P 0 s0 := by
  have h : ∀ k, k ≤ N → P (N - k) (itr step (N - k) s0) := by
    intro k
    induction k with
    | zero => intro _; exact hx
    | succ k ih =>
      intro hk
      have h1 := ih (by omega)
      have e : N - k = (N - (k + 1)) + 1 := by omega
      rw [e] at h1
      exact hb _ _ (by omega) rfl h1
  have h1 := h N (Nat.le_refl N)
  rw [Nat.sub_self] at h1
  exact h1
theorem g_cg {X : gw_X} {pc : Nat} {L L' : List (Option Value)} {S : List Value} {h h' : gw_H} {n kc ks : Nat} (hL : L = L') (hh : h = h') (k : GW X pc L' S h' n kc ks) : GW X pc L S h n kc ks := by subst hL; subst hh; exact k
theorem g_cv {X : gw_X} {pc : Nat} {L L' : List (Option Value)} {S : List Value} {h h' : gw_H} {n kc ks : Nat} (k : GW X pc L S h n kc ks) (hL : L' = L) (hh : h' = h) : GW X pc L' S h' n kc ks := by subst hL; subst hh; exact k
theorem g_top {X : gw_X} {pc : Nat} {L : List (Option Value)} {v v' : Value} {S : List Value} {h : gw_H} {n kc ks : Nat} (hv : v = v') (k : GW X pc L (v' :: S) h n kc ks) : GW X pc L (v :: S) h n kc ks := by subst hv; exact k
theorem gn_inc (a c : Nat) : nI a + Int32.ofInt (c : Int) = nI (a + c) := by
  rw [← nI_add]
  congr 1
theorem gn_z {p : Prop} [Decidable p] : narrow .boolean (.int (if p then nI 1 else nI 0)) = .int (if p then nI 1 else nI 0) := by split <;> rfl
theorem hs_hs (h : gw_H) (k : Nat) (a b : gw_E) : hs (hs h k a) k b = hs h k b := by
  funext j; unfold hs; split <;> rfl
theorem hs_cm (h : gw_H) {k j : Nat} (a b : gw_E) (hkj : k < j) : hs (hs h j b) k a = hs (hs h k a) j b := by
  funext i; unfold hs
  by_cases h1 : i = k
  · subst h1; rw [if_pos rfl, if_neg (by omega), if_pos rfl]
  · rw [if_neg h1, if_neg h1]
theorem hs_id {h : gw_H} {k : Nat} {e : gw_E} (he : h k = e) : hs h k e = h := by
  funext j; unfold hs
  split
  · next q => rw [q, he]
  · rfl
/-- one answer, one heap -/
def PQ (r : Option Value) (H : gw_H) (N : Nat) : Option Value → gw_H → Nat → Prop := fun rv h' n' => rv = r ∧ h' = H ∧ n' = N
theorem pq {X : gw_X} {pc n N kc ks : Nat} {L : List (Option Value)} {S : List Value} {r : Option Value} {H : gw_H} (k : GW X pc L (r.toList ++ S) H N kc ks) : ∀ (rv : Option Value) (h' : gw_H) (n' : Nat), n ≤ n' → PQ r H N rv h' n' → GW X pc L (rv.toList ++ S) h' n' kc ks := by
  rintro _ _ _ - ⟨rfl, rfl, rfl⟩
  exact k
def PXQ (E : String) (H : gw_H) (N : Nat) : String → gw_H → Nat → Prop := fun E' h' n' => E' = E ∧ h' = H ∧ n' = N
theorem px {X : gw_X} {pc n N kc ks : Nat} {L : List (Option Value)} {E : String} {H : gw_H} (k : GX X pc L E H N kc ks) : ∀ (E' : String) (h' : gw_H) (n' : Nat), n ≤ n' → PXQ E H N E' h' n' → GX X pc L E' h' n' kc ks := by
  rintro _ _ _ - ⟨rfl, rfl, rfl⟩
  exact k
theorem g_loop {P : Nat → Prop} (I : Nat → Prop) (N : Nat) (h0 : I 0) (hb : ∀ i, i < N → I i → (I (i + 1) → P (i + 1)) → P i) (hx : I N → P N) : P 0 := by
  have h : ∀ k, k ≤ N → I (N - k) → P (N - k) := by
    intro k
    induction k with
    | zero => intro _; exact hx
    | succ k ih =>
      intro hk hI
      have h1 := ih (by omega)
      have e : N - k = (N - (k + 1)) + 1 := by omega
      rw [e] at h1
      exact hb _ (by omega) hI h1
  have h1 := h N (Nat.le_refl N)
  rw [Nat.sub_self] at h1
  exact h1 h0
/-- an array's cell by what its places hold -/
theorem g_ext {X : gw_X} {pc : Nat} {L : List (Option Value)} {S : List Value} {h : gw_H} {n kc ks a len : Nat} {f g : Nat → Int32} (hfg : ∀ k, k < len → f k = g k) (k : GW X pc L S (hs h a (aI len g)) n kc ks) : GW X pc L S (hs h a (aI len f)) n kc ks := by
  obtain ⟨p, l1, e, R, s, m, args, below, meth, c, A, Q, K1, ad0, n0⟩ := X
  intro ad H locs ls hR hS ha hn hL hv
  refine k ad H locs ls ?_ hS ha hn hL hv
  have e1 : arrV K1.2.1 len (fun j => Value.int (f j)) = arrV K1.2.1 len (fun j => Value.int (g j)) := by
    unfold arrV
    congr 2
    funext j
    show Value.int (f j.val) = Value.int (g j.val)
    rw [hfg j.val j.isLt]
  obtain ⟨h1, h2, h3⟩ := hR
  have hat : ∀ (j : Nat) (q : Nat × va_E), (gw_ws K1 ad n (hs h a (aI len g)))[j]? = some q → ∃ q', (gw_ws K1 ad n (hs h a (aI len f)))[j]? = some q' ∧ q'.1 = q.1 ∧ ∀ H, va_at K1.1 vwCl q' H → va_at K1.1 vwCl q H := fun j q hq => by
    obtain ⟨hj, rfl⟩ := gw_ws_lt hq
    refine ⟨_, gw_ws_at hj, rfl, fun H hH => ?_⟩
    by_cases q : j = a
    · subst q
      rw [hs_eq] at hH ⊢
      show H[ad j]? = some (arrV K1.2.1 len (fun i => Value.int (g i)))
      rw [← e1]; exact hH
    · rw [hs_ne q] at hH ⊢
      exact hH
  refine ⟨fun j q hq => ?_, ⟨fun i j p q hi hj he => ?_, fun j q hq => ?_⟩, fun j hj => ?_⟩
  · obtain ⟨q', g1, g2, g3⟩ := hat j q hq
    exact g3 H (h1 j q' g1)
  · obtain ⟨p', g1, g2, -⟩ := hat i p hi
    obtain ⟨q', g3, g4, -⟩ := hat j q hj
    exact h2.1 i j p' q' g1 g3 (by rw [g2, g4]; exact he)
  · obtain ⟨q', g1, g2, -⟩ := hat j q hq
    rw [← g2]; exact h2.2 j q' g1
  · have := h3 j hj
    by_cases q : j = a
    · subst q; rw [hs_eq]; trivial
    · rw [hs_ne q] at this ⊢; exact this
theorem gn_cpy {f g : Nat → Int32} {N k : Nat} (hk : k < N) : va_cpy f g 0 0 N k = f k := by
  unfold va_cpy
  rw [if_pos ⟨Nat.zero_le _, by omega⟩]
  congr 1
  omega

theorem gn_eq {a b : Nat} (h : a < 2147483648 ∧ b < 2147483648) : nI a = nI b ↔ a = b := nI_eq (by omega) (by omega)
theorem gn_lt {a b : Nat} (h : a < 2147483648 ∧ b < 2147483648) : nI a < nI b ↔ a < b := nI_ltI (by omega) (by omega)
theorem gn_le {a b : Nat} (h : a < 2147483648 ∧ b < 2147483648) : nI a ≤ nI b ↔ a ≤ b := nI_leI (by omega) (by omega)
theorem gn_ile {x y : Int32} : ¬ x < y ↔ y ≤ x := by rw [Int32.not_lt]
theorem gn_ilt {x y : Int32} : ¬ x ≤ y ↔ y < x := by rw [Int32.not_le]
theorem g_icmp_eqN {l : Launch} {K : gw_K} {X : gw_X} {cc : ByteArray} {own : String} {F Lo MC MS pc : Nat} {L : List (Option Value)} {S : List Value} {h : gw_H} {n kc ks : Nat} {a b : Nat} {off : Int} {tgt : Nat} (hX : FX l K X cc own F Lo MC MS) (hd : decode cc pc = .ok (.if_icmp .eq off, 3)) (ht : (pc : Int) + off = (tgt : Int)) (hab : a < 2147483648 ∧ b < 2147483648) (kt : a = b → GW X tgt L S h n kc ks) (kf : ¬ a = b → GW X (pc + 3) L S h n kc ks) : GW X pc L (.int (nI b) :: .int (nI a) :: S) h n kc ks :=
  g_icmp_eq hX hd ht (fun q => kt ((gn_eq hab).mp q)) (fun q => kf (fun z => q ((gn_eq hab).mpr z)))
theorem g_if_eqN {l : Launch} {K : gw_K} {X : gw_X} {cc : ByteArray} {own : String} {F Lo MC MS pc : Nat} {L : List (Option Value)} {S : List Value} {h : gw_H} {n kc ks : Nat} {a : Nat} {off : Int} {tgt : Nat} (hX : FX l K X cc own F Lo MC MS) (hd : decode cc pc = .ok (.ifCond .eq off, 3)) (ht : (pc : Int) + off = (tgt : Int)) (hab : a < 2147483648) (kt : a = 0 → GW X tgt L S h n kc ks) (kf : ¬ a = 0 → GW X (pc + 3) L S h n kc ks) : GW X pc L (.int (nI a) :: S) h n kc ks := by
  have hab : a < 2147483648 ∧ 0 < 2147483648 := ⟨hab, by omega⟩
  exact g_if_eq hX hd ht (fun q => kt ((gn_eq hab).mp q)) (fun q => kf (fun z => q ((gn_eq hab).mpr z)))
theorem g_icmp_neN {l : Launch} {K : gw_K} {X : gw_X} {cc : ByteArray} {own : String} {F Lo MC MS pc : Nat} {L : List (Option Value)} {S : List Value} {h : gw_H} {n kc ks : Nat} {a b : Nat} {off : Int} {tgt : Nat} (hX : FX l K X cc own F Lo MC MS) (hd : decode cc pc = .ok (.if_icmp .ne off, 3)) (ht : (pc : Int) + off = (tgt : Int)) (hab : a < 2147483648 ∧ b < 2147483648) (kt : ¬ a = b → GW X tgt L S h n kc ks) (kf : a = b → GW X (pc + 3) L S h n kc ks) : GW X pc L (.int (nI b) :: .int (nI a) :: S) h n kc ks :=
  g_icmp_ne hX hd ht (fun q => kt (fun z => q ((gn_eq hab).mpr z))) (fun q => kf ((gn_eq hab).mp q))
theorem g_if_neN {l : Launch} {K : gw_K} {X : gw_X} {cc : ByteArray} {own : String} {F Lo MC MS pc : Nat} {L : List (Option Value)} {S : List Value} {h : gw_H} {n kc ks : Nat} {a : Nat} {off : Int} {tgt : Nat} (hX : FX l K X cc own F Lo MC MS) (hd : decode cc pc = .ok (.ifCond .ne off, 3)) (ht : (pc : Int) + off = (tgt : Int)) (hab : a < 2147483648) (kt : ¬ a = 0 → GW X tgt L S h n kc ks) (kf : a = 0 → GW X (pc + 3) L S h n kc ks) : GW X pc L (.int (nI a) :: S) h n kc ks := by
  have hab : a < 2147483648 ∧ 0 < 2147483648 := ⟨hab, by omega⟩
  exact g_if_ne hX hd ht (fun q => kt (fun z => q ((gn_eq hab).mpr z))) (fun q => kf ((gn_eq hab).mp q))
theorem g_icmp_ltN {l : Launch} {K : gw_K} {X : gw_X} {cc : ByteArray} {own : String} {F Lo MC MS pc : Nat} {L : List (Option Value)} {S : List Value} {h : gw_H} {n kc ks : Nat} {a b : Nat} {off : Int} {tgt : Nat} (hX : FX l K X cc own F Lo MC MS) (hd : decode cc pc = .ok (.if_icmp .lt off, 3)) (ht : (pc : Int) + off = (tgt : Int)) (hab : a < 2147483648 ∧ b < 2147483648) (kt : a < b → GW X tgt L S h n kc ks) (kf : b ≤ a → GW X (pc + 3) L S h n kc ks) : GW X pc L (.int (nI b) :: .int (nI a) :: S) h n kc ks :=
  g_icmp_lt hX hd ht (fun q => kt ((gn_lt hab).mp q)) (fun q => kf (Nat.not_lt.mp fun z => q ((gn_lt hab).mpr z)))
theorem g_if_ltN {l : Launch} {K : gw_K} {X : gw_X} {cc : ByteArray} {own : String} {F Lo MC MS pc : Nat} {L : List (Option Value)} {S : List Value} {h : gw_H} {n kc ks : Nat} {a : Nat} {off : Int} {tgt : Nat} (hX : FX l K X cc own F Lo MC MS) (hd : decode cc pc = .ok (.ifCond .lt off, 3)) (ht : (pc : Int) + off = (tgt : Int)) (hab : a < 2147483648) (kt : a < 0 → GW X tgt L S h n kc ks) (kf : 0 ≤ a → GW X (pc + 3) L S h n kc ks) : GW X pc L (.int (nI a) :: S) h n kc ks := by
  have hab : a < 2147483648 ∧ 0 < 2147483648 := ⟨hab, by omega⟩
  exact g_if_lt hX hd ht (fun q => kt ((gn_lt hab).mp q)) (fun q => kf (Nat.not_lt.mp fun z => q ((gn_lt hab).mpr z)))
theorem g_icmp_geN {l : Launch} {K : gw_K} {X : gw_X} {cc : ByteArray} {own : String} {F Lo MC MS pc : Nat} {L : List (Option Value)} {S : List Value} {h : gw_H} {n kc ks : Nat} {a b : Nat} {off : Int} {tgt : Nat} (hX : FX l K X cc own F Lo MC MS) (hd : decode cc pc = .ok (.if_icmp .ge off, 3)) (ht : (pc : Int) + off = (tgt : Int)) (hab : a < 2147483648 ∧ b < 2147483648) (kt : b ≤ a → GW X tgt L S h n kc ks) (kf : a < b → GW X (pc + 3) L S h n kc ks) : GW X pc L (.int (nI b) :: .int (nI a) :: S) h n kc ks :=
  g_icmp_ge hX hd ht (fun q => kt ((gn_le hab.symm).mp q)) (fun q => kf (Nat.not_le.mp fun z => q ((gn_le hab.symm).mpr z)))
theorem g_if_geN {l : Launch} {K : gw_K} {X : gw_X} {cc : ByteArray} {own : String} {F Lo MC MS pc : Nat} {L : List (Option Value)} {S : List Value} {h : gw_H} {n kc ks : Nat} {a : Nat} {off : Int} {tgt : Nat} (hX : FX l K X cc own F Lo MC MS) (hd : decode cc pc = .ok (.ifCond .ge off, 3)) (ht : (pc : Int) + off = (tgt : Int)) (hab : a < 2147483648) (kt : 0 ≤ a → GW X tgt L S h n kc ks) (kf : a < 0 → GW X (pc + 3) L S h n kc ks) : GW X pc L (.int (nI a) :: S) h n kc ks := by
  have hab : a < 2147483648 ∧ 0 < 2147483648 := ⟨hab, by omega⟩
  exact g_if_ge hX hd ht (fun q => kt ((gn_le hab.symm).mp q)) (fun q => kf (Nat.not_le.mp fun z => q ((gn_le hab.symm).mpr z)))
theorem g_icmp_gtN {l : Launch} {K : gw_K} {X : gw_X} {cc : ByteArray} {own : String} {F Lo MC MS pc : Nat} {L : List (Option Value)} {S : List Value} {h : gw_H} {n kc ks : Nat} {a b : Nat} {off : Int} {tgt : Nat} (hX : FX l K X cc own F Lo MC MS) (hd : decode cc pc = .ok (.if_icmp .gt off, 3)) (ht : (pc : Int) + off = (tgt : Int)) (hab : a < 2147483648 ∧ b < 2147483648) (kt : b < a → GW X tgt L S h n kc ks) (kf : a ≤ b → GW X (pc + 3) L S h n kc ks) : GW X pc L (.int (nI b) :: .int (nI a) :: S) h n kc ks :=
  g_icmp_gt hX hd ht (fun q => kt ((gn_lt hab.symm).mp q)) (fun q => kf (Nat.not_lt.mp fun z => q ((gn_lt hab.symm).mpr z)))
theorem g_if_gtN {l : Launch} {K : gw_K} {X : gw_X} {cc : ByteArray} {own : String} {F Lo MC MS pc : Nat} {L : List (Option Value)} {S : List Value} {h : gw_H} {n kc ks : Nat} {a : Nat} {off : Int} {tgt : Nat} (hX : FX l K X cc own F Lo MC MS) (hd : decode cc pc = .ok (.ifCond .gt off, 3)) (ht : (pc : Int) + off = (tgt : Int)) (hab : a < 2147483648) (kt : 0 < a → GW X tgt L S h n kc ks) (kf : a ≤ 0 → GW X (pc + 3) L S h n kc ks) : GW X pc L (.int (nI a) :: S) h n kc ks := by
  have hab : a < 2147483648 ∧ 0 < 2147483648 := ⟨hab, by omega⟩
  exact g_if_gt hX hd ht (fun q => kt ((gn_lt hab.symm).mp q)) (fun q => kf (Nat.not_lt.mp fun z => q ((gn_lt hab.symm).mpr z)))
theorem g_icmp_leN {l : Launch} {K : gw_K} {X : gw_X} {cc : ByteArray} {own : String} {F Lo MC MS pc : Nat} {L : List (Option Value)} {S : List Value} {h : gw_H} {n kc ks : Nat} {a b : Nat} {off : Int} {tgt : Nat} (hX : FX l K X cc own F Lo MC MS) (hd : decode cc pc = .ok (.if_icmp .le off, 3)) (ht : (pc : Int) + off = (tgt : Int)) (hab : a < 2147483648 ∧ b < 2147483648) (kt : a ≤ b → GW X tgt L S h n kc ks) (kf : b < a → GW X (pc + 3) L S h n kc ks) : GW X pc L (.int (nI b) :: .int (nI a) :: S) h n kc ks :=
  g_icmp_le hX hd ht (fun q => kt ((gn_le hab).mp q)) (fun q => kf (Nat.not_le.mp fun z => q ((gn_le hab).mpr z)))
theorem g_if_leN {l : Launch} {K : gw_K} {X : gw_X} {cc : ByteArray} {own : String} {F Lo MC MS pc : Nat} {L : List (Option Value)} {S : List Value} {h : gw_H} {n kc ks : Nat} {a : Nat} {off : Int} {tgt : Nat} (hX : FX l K X cc own F Lo MC MS) (hd : decode cc pc = .ok (.ifCond .le off, 3)) (ht : (pc : Int) + off = (tgt : Int)) (hab : a < 2147483648) (kt : a ≤ 0 → GW X tgt L S h n kc ks) (kf : 0 < a → GW X (pc + 3) L S h n kc ks) : GW X pc L (.int (nI a) :: S) h n kc ks := by
  have hab : a < 2147483648 ∧ 0 < 2147483648 := ⟨hab, by omega⟩
  exact g_if_le hX hd ht (fun q => kt ((gn_le hab).mp q)) (fun q => kf (Nat.not_le.mp fun z => q ((gn_le hab).mpr z)))
theorem g_ifB_eq {l : Launch} {K : gw_K} {X : gw_X} {cc : ByteArray} {own : String} {F Lo MC MS pc : Nat} {L : List (Option Value)} {S : List Value} {h : gw_H} {n kc ks : Nat} {P : Prop} [Decidable P] {off : Int} {tgt : Nat} (hX : FX l K X cc own F Lo MC MS) (hd : decode cc pc = .ok (.ifCond .eq off, 3)) (ht : (pc : Int) + off = (tgt : Int)) (kt : ¬ P → GW X tgt L S h n kc ks) (kf : P → GW X (pc + 3) L S h n kc ks) : GW X pc L (.int (if P then nI 1 else nI 0) :: S) h n kc ks := by
  by_cases hP : P
  · rw [if_pos hP]
    exact g_if_eq hX hd ht (fun q => absurd q (by decide)) (fun _ => kf hP)
  · rw [if_neg hP]
    exact g_if_eq hX hd ht (fun _ => kt hP) (fun q => absurd q (by decide))
theorem g_ifB_ne {l : Launch} {K : gw_K} {X : gw_X} {cc : ByteArray} {own : String} {F Lo MC MS pc : Nat} {L : List (Option Value)} {S : List Value} {h : gw_H} {n kc ks : Nat} {P : Prop} [Decidable P] {off : Int} {tgt : Nat} (hX : FX l K X cc own F Lo MC MS) (hd : decode cc pc = .ok (.ifCond .ne off, 3)) (ht : (pc : Int) + off = (tgt : Int)) (kt : P → GW X tgt L S h n kc ks) (kf : ¬ P → GW X (pc + 3) L S h n kc ks) : GW X pc L (.int (if P then nI 1 else nI 0) :: S) h n kc ks := by
  by_cases hP : P
  · rw [if_pos hP]
    exact g_if_ne hX hd ht (fun _ => kt hP) (fun q => absurd q (by decide))
  · rw [if_neg hP]
    exact g_if_ne hX hd ht (fun q => absurd q (by decide)) (fun _ => kf hP)
theorem g_iaddN {l : Launch} {K : gw_K} {X : gw_X} {cc : ByteArray} {own : String} {F Lo MC MS pc : Nat} {L : List (Option Value)} {S : List Value} {h : gw_H} {n kc ks : Nat} {a b : Nat} (hX : FX l K X cc own F Lo MC MS) (hd : decode cc pc = .ok (.iadd, 1)) (k : GW X (pc + 1) L (.int (nI (a + b)) :: S) h n kc ks) : GW X pc L (.int (nI b) :: .int (nI a) :: S) h n kc ks :=
  g_iadd hX hd (by rw [nI_add a b]; exact k)
theorem g_imulN {l : Launch} {K : gw_K} {X : gw_X} {cc : ByteArray} {own : String} {F Lo MC MS pc : Nat} {L : List (Option Value)} {S : List Value} {h : gw_H} {n kc ks : Nat} {a b : Nat} (hX : FX l K X cc own F Lo MC MS) (hd : decode cc pc = .ok (.imul, 1)) (k : GW X (pc + 1) L (.int (nI (a * b)) :: S) h n kc ks) : GW X pc L (.int (nI b) :: .int (nI a) :: S) h n kc ks :=
  g_imul hX hd (by rw [pk_mul a b]; exact k)
theorem g_isubN {l : Launch} {K : gw_K} {X : gw_X} {cc : ByteArray} {own : String} {F Lo MC MS pc : Nat} {L : List (Option Value)} {S : List Value} {h : gw_H} {n kc ks : Nat} {a b : Nat} (hX : FX l K X cc own F Lo MC MS) (hd : decode cc pc = .ok (.isub, 1)) (hba : b ≤ a) (k : GW X (pc + 1) L (.int (nI (a - b)) :: S) h n kc ks) : GW X pc L (.int (nI b) :: .int (nI a) :: S) h n kc ks :=
  g_isub hX hd (by rw [pk_sub hba]; exact k)
theorem g_idivN {l : Launch} {K : gw_K} {X : gw_X} {cc : ByteArray} {own : String} {F Lo MC MS pc : Nat} {L : List (Option Value)} {S : List Value} {h : gw_H} {n kc ks : Nat} {a b : Nat} (hX : FX l K X cc own F Lo MC MS) (hd : decode cc pc = .ok (.idiv, 1)) (ha : a < 2147483648) (h0 : 0 < b) (hb : b < 2147483648) (k : GW X (pc + 1) L (.int (nI (a / b)) :: S) h n kc ks) : GW X pc L (.int (nI b) :: .int (nI a) :: S) h n kc ks :=
  g_idiv hX hd (nI_ne0 h0 (by omega)) (by rw [pk_div (by omega) h0 (by omega)]; exact k)
theorem g_iremN {l : Launch} {K : gw_K} {X : gw_X} {cc : ByteArray} {own : String} {F Lo MC MS pc : Nat} {L : List (Option Value)} {S : List Value} {h : gw_H} {n kc ks : Nat} {a b : Nat} (hX : FX l K X cc own F Lo MC MS) (hd : decode cc pc = .ok (.irem, 1)) (ha : a < 2147483648) (h0 : 0 < b) (hb : b < 2147483648) (k : GW X (pc + 1) L (.int (nI (a % b)) :: S) h n kc ks) : GW X pc L (.int (nI b) :: .int (nI a) :: S) h n kc ks :=
  g_irem hX hd (nI_ne0 h0 (by omega)) (by rw [pk_rem (by omega) h0 (by omega)]; exact k)
