/-! the model: states -/
theorem gn_a0 (x : Int32) : x + nI 0 = x := by show x + 0 = x; simp
theorem gn_one : nI 1 = (1 : Int32) := rfl
set_option maxRecDepth 20000 in
theorem so_dec : ∀ s, s < 18 → (¬ nI s = -1 ∧ ¬ nI s < 0 ∧ nI s / nI 6 = nI (s / 6) ∧ nI s - nI s / nI 6 * nI 6 = nI (s % 6)) := by decide +kernel
theorem so_neg {x : Int32} (h : seatOK x) : x < 0 ↔ x = -1 := by
  rcases h with rfl | ⟨s, h1, rfl⟩
  · exact ⟨fun _ => rfl, fun _ => by decide⟩
  · exact ⟨fun q => absurd q (so_dec s h1).2.1, fun q => absurd q (so_dec s h1).1⟩
theorem so_band {x : Int32} (h : seatOK x) {b : Nat} (hb3 : b < 3) : bandI x = nI b ↔ ¬ x < 0 ∧ x / nI 6 = nI b := by
  rw [so_neg h]
  unfold bandI
  by_cases hx : x = -1
  · subst hx
    exact ⟨fun q => absurd q (by rcases (show b = 0 ∨ b = 1 ∨ b = 2 by omega) with rfl | rfl | rfl <;> decide), fun q => absurd rfl q.1⟩
  · rw [if_neg hx]
    exact ⟨fun q => ⟨hx, q⟩, fun q => q.2⟩
theorem so_none : seatOK (-1) := Or.inl rfl
theorem so_upd {f : Nat → Int32} {rc k : Nat} {x : Int32} (h : ∀ r, r < rc → seatOK (f r)) (hx : seatOK x) : ∀ r, r < rc → seatOK (upd f k x r) := fun r hr => by
  unfold upd
  split
  · exact hx
  · exact h r hr
theorem clr_ok {st : Nat → Int32} {rc : Nat} {b : Int32} (h : ∀ r, r < rc → seatOK (st r)) : ∀ k, k ≤ rc → ∀ r, r < rc → seatOK (itr (fun r s => if bandI (s r) = b then upd s r (-1) else s) k st r) :=
  itr_inv (I := fun (s : Nat → Int32) => ∀ r, r < rc → seatOK (s r)) h fun i s _ hs => by
    split
    · exact so_upd hs so_none
    · exact hs
theorem bst_inv (wd vt st : Nat → Int32) (w : Int32) : ∀ k : Nat, ((itr (bestP wd vt st w) k (-1, -1)).1 = -1 ∧ (itr (bestP wd vt st w) k (-1, -1)).2 = -1) ∨ ∃ j, j < k ∧ (itr (bestP wd vt st w) k (-1, -1)).1 = nI j ∧ (itr (bestP wd vt st w) k (-1, -1)).2 = vt j := by
  intro k
  induction k with
  | zero => exact Or.inl ⟨rfl, rfl⟩
  | succ k ih =>
    show ((bestP wd vt st w k (itr (bestP wd vt st w) k (-1, -1))).1 = -1 ∧ (bestP wd vt st w k (itr (bestP wd vt st w) k (-1, -1))).2 = -1) ∨ ∃ j, j < k + 1 ∧ (bestP wd vt st w k (itr (bestP wd vt st w) k (-1, -1))).1 = nI j ∧ (bestP wd vt st w k (itr (bestP wd vt st w) k (-1, -1))).2 = vt j
    unfold bestP
    split
    · exact Or.inr ⟨k, by omega, rfl, rfl⟩
    · rcases ih with h | ⟨j, h1, h2⟩
      · exact Or.inl h
      · exact Or.inr ⟨j, by omega, h2⟩
theorem bst_use {b m : Int32} {vt : Nat → Int32} {k : Nat} (hk : k ≤ 20) (h : (b = -1 ∧ m = -1) ∨ ∃ j, j < k ∧ b = nI j ∧ m = vt j) : (b = -1 → m = -1) ∧ (¬ b = -1 → b.toNatClampNeg < 20 ∧ b = nI b.toNatClampNeg ∧ m = vt b.toNatClampNeg) := by
  rcases h with ⟨h1, h2⟩ | ⟨j, h1, rfl, rfl⟩
  · exact ⟨fun _ => h2, fun q => absurd h1 q⟩
  · rw [nI_clamp (by omega)]
    exact ⟨fun q => absurd (congrArg Int32.toNatClampNeg q) (by rw [nI_clamp (by omega)]; intro z; have e : j = 0 := z; subst e; exact absurd q (by decide)), fun _ => ⟨by omega, rfl, rfl⟩⟩
theorem vt_pos {x : Int32} (h : 0 ≤ x) : -1 < x := by
  have h1 : (0 : Int32).toInt ≤ x.toInt := Int32.le_iff_toInt_le.mp h
  exact Int32.lt_iff_toInt_lt.mpr (by have e : (-1 : Int32).toInt = -1 := by decide
                                      have e0 : (0 : Int32).toInt = 0 := by decide
                                      omega)
theorem elB_6 {wd vt ws : Nat → Int32} {rc : Nat} {st : Nat → Int32} {b : Nat} : itr (fun k s => elTo wd vt ws rc s (6 * b + k)) 6 (clrB st rc (nI b)) = elB wd vt ws rc st b := by
  unfold elB
  rw [Nat.mul_comm]
def cntN (P : Nat → Prop) [DecidablePred P] (rc : Nat) : Nat := itr (fun r s => if P r then s + 1 else s) rc 0
/-- no two ringers ring one bell -/
def seatI (st : Nat → Int32) (rc : Nat) : Prop := ∀ r, r < rc → seatOK (st r) ∧ ∀ q, q < rc → st r = st q → ¬ st r = -1 → r = q
theorem cntN_le {P Q : Nat → Prop} [DecidablePred P] [DecidablePred Q] {rc : Nat} (h : ∀ r, r < rc → P r → Q r) : cntN P rc ≤ cntN Q rc := by
  unfold cntN
  induction rc with
  | zero => exact Nat.le_refl _
  | succ k ih =>
    have h1 := ih fun r hr => h r (by omega)
    have h2 := h k (by omega)
    simp only [itr]
    by_cases hp : P k
    · rw [if_pos hp, if_pos (h2 hp)]; omega
    · rw [if_neg hp]; split <;> omega
theorem cntN_lt {P Q : Nat → Prop} [DecidablePred P] [DecidablePred Q] {rc r0 : Nat} (h : ∀ r, r < rc → P r → Q r) (h0 : r0 < rc) (h1 : Q r0) (h2 : ¬ P r0) : cntN P rc < cntN Q rc := by
  unfold cntN
  induction rc with
  | zero => omega
  | succ k ih =>
    simp only [itr]
    by_cases hk : r0 = k
    · subst hk
      rw [if_neg h2, if_pos h1]
      have h3 : cntN P r0 ≤ cntN Q r0 := cntN_le fun r hr => h r (by omega)
      unfold cntN at h3
      omega
    · have h3 := ih (fun r hr => h r (by omega)) (by omega)
      have h4 := h k (by omega)
      by_cases hp : P k
      · rw [if_pos hp, if_pos (h4 hp)]; omega
      · rw [if_neg hp]; split <;> omega
theorem cntN_or {P Q : Nat → Prop} [DecidablePred P] [DecidablePred Q] {rc : Nat} : cntN (fun r => P r ∨ Q r) rc ≤ cntN P rc + cntN Q rc := by
  unfold cntN
  induction rc with
  | zero => exact Nat.le_refl _
  | succ k ih =>
    have key : ∀ (a b c : Nat), a ≤ b + c → (if P k ∨ Q k then a + 1 else a) ≤ (if P k then b + 1 else b) + (if Q k then c + 1 else c) := by
      intro a b c h
      by_cases hp : P k <;> by_cases hq : Q k <;> simp [hp, hq] <;> omega
    exact key _ _ _ ih
theorem cntN_one {P : Nat → Prop} [DecidablePred P] {rc : Nat} (h : ∀ r q, r < rc → q < rc → P r → P q → r = q) : cntN P rc ≤ 1 := by
  unfold cntN
  induction rc with
  | zero => exact Nat.zero_le _
  | succ k ih =>
    simp only [itr]
    by_cases hp : P k
    · rw [if_pos hp]
      have h0 : cntN P k ≤ cntN (fun _ => False) k := cntN_le fun r hr hpr => by have := h r k (by omega) (by omega) hpr hp; omega
      have h1 : ∀ k, cntN (fun _ => False) k = 0 := fun k => by
        unfold cntN
        induction k with
        | zero => rfl
        | succ k ih => simp only [itr]; simpa using ih
      rw [h1] at h0
      unfold cntN at h0
      omega
    · rw [if_neg hp]
      exact ih fun r q hr hq => h r q (by omega) (by omega)
theorem cnt_nat {P : Nat → Prop} [DecidablePred P] {rc : Nat} : itr (fun r (s : Int32) => if P r then s + 1 else s) rc (nI 0) = nI (cntN P rc) := by
  unfold cntN
  induction rc with
  | zero => rfl
  | succ k ih =>
    simp only [itr]
    rw [ih]
    split
    · exact nI_add _ 1
    · rfl
theorem band_six {st : Nat → Int32} {rc b : Nat} (h : seatI st rc) (hb3 : b < 3) : cntN (fun r => bandI (st r) = nI b) rc ≤ 6 := by
  have h1 : ∀ k, cntN (fun r => st r = nI (6 * b + k)) rc ≤ 1 ∨ 6 ≤ k := fun k => by
    by_cases hk : k < 6
    · exact Or.inl (cntN_one fun r q hr hq hpr hpq => (h r hr).2 q hq (hpr.trans hpq.symm) (by rw [hpr]; exact (so_dec _ (by omega)).1))
    · exact Or.inr (by omega)
  have h2 : cntN (fun r => bandI (st r) = nI b) rc ≤ cntN (fun r => st r = nI (6 * b + 0) ∨ (st r = nI (6 * b + 1) ∨ (st r = nI (6 * b + 2) ∨ (st r = nI (6 * b + 3) ∨ (st r = nI (6 * b + 4) ∨ st r = nI (6 * b + 5)))))) rc := cntN_le fun r hr hb => by
    rcases (h r hr).1 with q | ⟨s, q1, q2⟩
    · rw [q] at hb; exact absurd hb (band_no hb3)
    · have h3 := ((so_band (h r hr).1 hb3).mp hb).2
      rw [q2, (so_dec s q1).2.2.1] at h3
      have h4 : s / 6 = b := (gn_eq (by omega)).mp h3
      rw [q2]
      rcases (show s = 6 * b + 0 ∨ s = 6 * b + 1 ∨ s = 6 * b + 2 ∨ s = 6 * b + 3 ∨ s = 6 * b + 4 ∨ s = 6 * b + 5 by omega) with e | e | e | e | e | e <;> simp [e]
  have a0 := h1 0; have a1 := h1 1; have a2 := h1 2; have a3 := h1 3; have a4 := h1 4; have a5 := h1 5
  have b1 := cntN_or (P := fun r => st r = nI (6 * b + 0)) (Q := fun r => st r = nI (6 * b + 1) ∨ (st r = nI (6 * b + 2) ∨ (st r = nI (6 * b + 3) ∨ (st r = nI (6 * b + 4) ∨ st r = nI (6 * b + 5))))) (rc := rc)
  have b2 := cntN_or (P := fun r => st r = nI (6 * b + 1)) (Q := fun r => st r = nI (6 * b + 2) ∨ (st r = nI (6 * b + 3) ∨ (st r = nI (6 * b + 4) ∨ st r = nI (6 * b + 5)))) (rc := rc)
  have b3 := cntN_or (P := fun r => st r = nI (6 * b + 2)) (Q := fun r => st r = nI (6 * b + 3) ∨ (st r = nI (6 * b + 4) ∨ st r = nI (6 * b + 5))) (rc := rc)
  have b4 := cntN_or (P := fun r => st r = nI (6 * b + 3)) (Q := fun r => st r = nI (6 * b + 4) ∨ st r = nI (6 * b + 5)) (rc := rc)
  have b5 := cntN_or (P := fun r => st r = nI (6 * b + 4)) (Q := fun r => st r = nI (6 * b + 5)) (rc := rc)
  omega
/-- a band is fresh when six of it are, and none of it is too tired -/
theorem fresh_no {st ti : Nat → Int32} {rc b i : Nat} (h : seatI st rc) (hrc : rc ≤ 20) (hb3 : b < 3) (hi : i < rc) (h1 : bandI (st i) = nI b) (h2 : ¬ ti i < nI 15) : ¬ freshI st ti rc (nI b) = nI 6 := by
  have e : freshI st ti rc (nI b) = nI (cntN (fun r => bandI (st r) = nI b ∧ ti r < nI 15) rc) := cnt_nat
  rw [e]
  have h3 : cntN (fun r => bandI (st r) = nI b ∧ ti r < nI 15) rc < cntN (fun r => bandI (st r) = nI b) rc := cntN_lt (fun _ _ q => q.1) hi h1 fun q => h2 q.2
  have h4 := band_six h hb3
  intro q
  have := (gn_eq (by omega)).mp q
  omega
theorem fresh_all {st ti : Nat → Int32} {rc b : Nat} (h : ∀ i, i < rc → bandI (st i) = nI b → ti i < nI 15) : freshI st ti rc (nI b) = cntI st rc (nI b) := by
  unfold freshI cntI
  have : ∀ k, k ≤ rc → itr (fun r (s : Int32) => if bandI (st r) = nI b ∧ ti r < nI 15 then s + 1 else s) k (nI 0) = itr (fun r (s : Int32) => if bandI (st r) = nI b then s + 1 else s) k (nI 0) := by
    intro k
    induction k with
    | zero => intro _; rfl
    | succ k ih =>
      intro hk
      simp only [itr]
      rw [ih (by omega)]
      by_cases hb : bandI (st k) = nI b
      · rw [if_pos ⟨hb, h k (by omega) hb⟩, if_pos hb]
      · rw [if_neg (fun q => hb q.1), if_neg hb]
  exact this rc (Nat.le_refl _)
