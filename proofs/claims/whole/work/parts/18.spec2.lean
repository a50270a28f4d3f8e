/-! the model: states -/
theorem gn_a0 (x : Int32) : x + nI 0 = x := by show x + 0 = x; simp
theorem gn_one : nI 1 = (1 : Int32) := rfl
set_option maxRecDepth 20000 in
theorem so_dec : ∀ s, s < 18 → (¬ nI s = -1 ∧ ¬ nI s < 0 ∧ nI s / nI 6 = nI (s / 6) ∧ nI s - nI s / nI 6 * nI 6 = nI (s % 6)) := by decide +kernel
theorem so_neg {x : Int32} (h : seatOK x) : x < 0 ↔ x = -1 := by
  rcases h with rfl | ⟨s, h1, rfl⟩
  · exact ⟨fun _ => rfl, fun _ => by decide⟩
  · exact ⟨fun q => absurd q (so_dec s h1).2.1, fun q => absurd q (so_dec s h1).1⟩
theorem so_band {x : Int32} (h : seatOK x) {b : Nat} (hb3 : b < 3) : bandI x = nI b ↔ ¬ x < 0 ∧ x / nI 6 = nI b := by
  rw [so_neg h]
  unfold bandI
  by_cases hx : x = -1
  · subst hx
    exact ⟨fun q => absurd q (by rcases (show b = 0 ∨ b = 1 ∨ b = 2 by omega) with rfl | rfl | rfl <;> decide), fun q => absurd rfl q.1⟩
  · rw [if_neg hx]
    exact ⟨fun q => ⟨hx, q⟩, fun q => q.2⟩
theorem so_none : seatOK (-1) := Or.inl rfl
theorem so_upd {f : Nat → Int32} {rc k : Nat} {x : Int32} (h : ∀ r, r < rc → seatOK (f r)) (hx : seatOK x) : ∀ r, r < rc → seatOK (upd f k x r) := fun r hr => by
  unfold upd
  split
  · exact hx
  · exact h r hr
theorem clr_ok {st : Nat → Int32} {rc : Nat} {b : Int32} (h : ∀ r, r < rc → seatOK (st r)) : ∀ k, k ≤ rc → ∀ r, r < rc → seatOK (itr (fun r s => if bandI (s r) = b then upd s r (-1) else s) k st r) :=
  itr_inv (I := fun (s : Nat → Int32) => ∀ r, r < rc → seatOK (s r)) h fun i s _ hs => by
    split
    · exact so_upd hs so_none
    · exact hs
theorem bst_inv (wd vt st : Nat → Int32) (w : Int32) : ∀ k : Nat, ((itr (bestP wd vt st w) k (-1, -1)).1 = -1 ∧ (itr (bestP wd vt st w) k (-1, -1)).2 = -1) ∨ ∃ j, j < k ∧ (itr (bestP wd vt st w) k (-1, -1)).1 = nI j ∧ (itr (bestP wd vt st w) k (-1, -1)).2 = vt j := by
  intro k
  induction k with
  | zero => exact Or.inl ⟨rfl, rfl⟩
  | succ k ih =>
    show ((bestP wd vt st w k (itr (bestP wd vt st w) k (-1, -1))).1 = -1 ∧ (bestP wd vt st w k (itr (bestP wd vt st w) k (-1, -1))).2 = -1) ∨ ∃ j, j < k + 1 ∧ (bestP wd vt st w k (itr (bestP wd vt st w) k (-1, -1))).1 = nI j ∧ (bestP wd vt st w k (itr (bestP wd vt st w) k (-1, -1))).2 = vt j
    unfold bestP
    split
    · exact Or.inr ⟨k, by omega, rfl, rfl⟩
    · rcases ih with h | ⟨j, h1, h2⟩
      · exact Or.inl h
      · exact Or.inr ⟨j, by omega, h2⟩
theorem bst_use {b m : Int32} {vt : Nat → Int32} {k : Nat} (hk : k ≤ 20) (h : (b = -1 ∧ m = -1) ∨ ∃ j, j < k ∧ b = nI j ∧ m = vt j) : (b = -1 → m = -1) ∧ (¬ b = -1 → b.toNatClampNeg < 20 ∧ b = nI b.toNatClampNeg ∧ m = vt b.toNatClampNeg) := by
  rcases h with ⟨h1, h2⟩ | ⟨j, h1, rfl, rfl⟩
  · exact ⟨fun _ => h2, fun q => absurd h1 q⟩
  · rw [nI_clamp (by omega)]
    exact ⟨fun q => absurd (congrArg Int32.toNatClampNeg q) (by rw [nI_clamp (by omega)]; intro z; have e : j = 0 := z; subst e; exact absurd q (by decide)), fun _ => ⟨by omega, rfl, rfl⟩⟩
theorem vt_pos {x : Int32} (h : 0 ≤ x) : -1 < x := by
  have h1 : (0 : Int32).toInt ≤ x.toInt := Int32.le_iff_toInt_le.mp h
  exact Int32.lt_iff_toInt_lt.mpr (by have e : (-1 : Int32).toInt = -1 := by decide
                                      have e0 : (0 : Int32).toInt = 0 := by decide
                                      omega)
theorem elB_6 {wd vt ws : Nat → Int32} {rc : Nat} {st : Nat → Int32} {b : Nat} : itr (fun k s => elTo wd vt ws rc s (6 * b + k)) 6 (clrB st rc (nI b)) = elB wd vt ws rc st b := by
  unfold elB
  rw [Nat.mul_comm]
def cntN (P : Nat → Prop) [DecidablePred P] (rc : Nat) : Nat := itr (fun r s => if P r then s + 1 else s) rc 0
/-- no two ringers ring one bell -/
def seatI (st : Nat → Int32) (rc : Nat) : Prop := ∀ r, r < rc → seatOK (st r) ∧ ∀ q, q < rc → st r = st q → ¬ st r = -1 → r = q
theorem cntN_le {P Q : Nat → Prop} [DecidablePred P] [DecidablePred Q] {rc : Nat} (h : ∀ r, r < rc → P r → Q r) : cntN P rc ≤ cntN Q rc := by
  unfold cntN
  induction rc with
  | zero => exact Nat.le_refl _
  | succ k ih =>
    have h1 := ih fun r hr => h r (by omega)
    have h2 := h k (by omega)
    simp only [itr]
    by_cases hp : P k
    · rw [if_pos hp, if_pos (h2 hp)]; omega
    · rw [if_neg hp]; split <;> omega
theorem cntN_lt {P Q : Nat → Prop} [DecidablePred P] [DecidablePred Q] {rc r0 : Nat} (h : ∀ r, r < rc → P r → Q r) (h0 : r0 < rc) (h1 : Q r0) (h2 : ¬ P r0) : cntN P rc < cntN Q rc := by
  unfold cntN
  induction rc with
  | zero => omega
  | succ k ih =>
    simp only [itr]
    by_cases hk : r0 = k
    · subst hk
      rw [if_neg h2, if_pos h1]
      have h3 : cntN P r0 ≤ cntN Q r0 := cntN_le fun r hr => h r (by omega)
      unfold cntN at h3
      omega
    · have h3 := ih (fun r hr => h r (by omega)) (by omega)
      have h4 := h k (by omega)
      by_cases hp : P k
      · rw [if_pos hp, if_pos (h4 hp)]; omega
      · rw [if_neg hp]; split <;> omega
theorem cntN_or {P Q : Nat → Prop} [DecidablePred P] [DecidablePred Q] {rc : Nat} : cntN (fun r => P r ∨ Q r) rc ≤ cntN P rc + cntN Q rc := by
  unfold cntN
  induction rc with
  | zero => exact Nat.le_refl _
  | succ k ih =>
    have key : ∀ (a b c : Nat), a ≤ b + c → (if P k ∨ Q k then a + 1 else a) ≤ (if P k then b + 1 else b) + (if Q k then c + 1 else c) := by
      intro a b c h
      by_cases hp : P k <;> by_cases hq : Q k <;> simp [hp, hq] <;> omega
    exact key _ _ _ ih
theorem cntN_one {P : Nat → Prop} [DecidablePred P] {rc : Nat} (h : ∀ r q, r < rc → q < rc → P r → P q → r = q) : cntN P rc ≤ 1 := by
  unfold cntN
  induction rc with
  | zero => exact Nat.zero_le _
  | succ k ih =>
    simp only [itr]
    by_cases hp : P k
    · rw [if_pos hp]
      have h0 : cntN P k ≤ cntN (fun _ => False) k := cntN_le fun r hr hpr => by have := h r k (by omega) (by omega) hpr hp; omega
      have h1 : ∀ k, cntN (fun _ => False) k = 0 := fun k => by
        unfold cntN
        induction k with
        | zero => rfl
        | succ k ih => simp only [itr]; simpa using ih
      rw [h1] at h0
      unfold cntN at h0
      omega
    · rw [if_neg hp]
      exact ih fun r q hr hq => h r q (by omega) (by omega)
theorem cnt_nat {P : Nat → Prop} [DecidablePred P] {rc : Nat} : itr (fun r (s : Int32) => if P r then s + 1 else s) rc (nI 0) = nI (cntN P rc) := by
  unfold cntN
  induction rc with
  | zero => rfl
  | succ k ih =>
    simp only [itr]
    rw [ih]
    split
    · exact nI_add _ 1
    · rfl
theorem band_six {st : Nat → Int32} {rc b : Nat} (h : seatI st rc) (hb3 : b < 3) : cntN (fun r => bandI (st r) = nI b) rc ≤ 6 := by
  have h1 : ∀ k, cntN (fun r => st r = nI (6 * b + k)) rc ≤ 1 ∨ 6 ≤ k := fun k => by
    by_cases hk : k < 6
    · exact Or.inl (cntN_one fun r q hr hq hpr hpq => (h r hr).2 q hq (hpr.trans hpq.symm) (by rw [hpr]; exact (so_dec _ (by omega)).1))
    · exact Or.inr (by omega)
  have h2 : cntN (fun r => bandI (st r) = nI b) rc ≤ cntN (fun r => st r = nI (6 * b + 0) ∨ (st r = nI (6 * b + 1) ∨ (st r = nI (6 * b + 2) ∨ (st r = nI (6 * b + 3) ∨ (st r = nI (6 * b + 4) ∨ st r = nI (6 * b + 5)))))) rc := cntN_le fun r hr hb => by
    rcases (h r hr).1 with q | ⟨s, q1, q2⟩
    · rw [q] at hb; exact absurd hb (band_no hb3)
    · have h3 := ((so_band (h r hr).1 hb3).mp hb).2
      rw [q2, (so_dec s q1).2.2.1] at h3
      have h4 : s / 6 = b := (gn_eq (by omega)).mp h3
      rw [q2]
      rcases (show s = 6 * b + 0 ∨ s = 6 * b + 1 ∨ s = 6 * b + 2 ∨ s = 6 * b + 3 ∨ s = 6 * b + 4 ∨ s = 6 * b + 5 by omega) with e | e | e | e | e | e <;> simp [e]
  have a0 := h1 0; have a1 := h1 1; have a2 := h1 2; have a3 := h1 3; have a4 := h1 4; have a5 := h1 5
  have b1 := cntN_or (P := fun r => st r = nI (6 * b + 0)) (Q := fun r => st r = nI (6 * b + 1) ∨ (st r = nI (6 * b + 2) ∨ (st r = nI (6 * b + 3) ∨ (st r = nI (6 * b + 4) ∨ st r = nI (6 * b + 5))))) (rc := rc)
  have b2 := cntN_or (P := fun r => st r = nI (6 * b + 1)) (Q := fun r => st r = nI (6 * b + 2) ∨ (st r = nI (6 * b + 3) ∨ (st r = nI (6 * b + 4) ∨ st r = nI (6 * b + 5)))) (rc := rc)
  have b3 := cntN_or (P := fun r => st r = nI (6 * b + 2)) (Q := fun r => st r = nI (6 * b + 3) ∨ (st r = nI (6 * b + 4) ∨ st r = nI (6 * b + 5))) (rc := rc)
  have b4 := cntN_or (P := fun r => st r = nI (6 * b + 3)) (Q := fun r => st r = nI (6 * b + 4) ∨ st r = nI (6 * b + 5)) (rc := rc)
  have b5 := cntN_or (P := fun r => st r = nI (6 * b + 4)) (Q := fun r => st r = nI (6 * b + 5)) (rc := rc)
  omega
/-- a band is fresh when six of it are, and none of it is too tired -/
theorem fresh_no {st ti : Nat → Int32} {rc b i : Nat} (h : seatI st rc) (hrc : rc ≤ 20) (hb3 : b < 3) (hi : i < rc) (h1 : bandI (st i) = nI b) (h2 : ¬ ti i < nI 15) : ¬ freshI st ti rc (nI b) = nI 6 := by
  have e : freshI st ti rc (nI b) = nI (cntN (fun r => bandI (st r) = nI b ∧ ti r < nI 15) rc) := cnt_nat
  rw [e]
  have h3 : cntN (fun r => bandI (st r) = nI b ∧ ti r < nI 15) rc < cntN (fun r => bandI (st r) = nI b) rc := cntN_lt (fun _ _ q => q.1) hi h1 fun q => h2 q.2
  have h4 := band_six h hb3
  intro q
  have := (gn_eq (by omega)).mp q
  omega
theorem fresh_all {st ti : Nat → Int32} {rc b : Nat} (h : ∀ i, i < rc → bandI (st i) = nI b → ti i < nI 15) : freshI st ti rc (nI b) = cntI st rc (nI b) := by
  unfold freshI cntI
  have : ∀ k, k ≤ rc → itr (fun r (s : Int32) => if bandI (st r) = nI b ∧ ti r < nI 15 then s + 1 else s) k (nI 0) = itr (fun r (s : Int32) => if bandI (st r) = nI b then s + 1 else s) k (nI 0) := by
    intro k
    induction k with
    | zero => intro _; rfl
    | succ k ih =>
      intro hk
      simp only [itr]
      rw [ih (by omega)]
      by_cases hb : bandI (st k) = nI b
      · rw [if_pos ⟨hb, h k (by omega) hb⟩, if_pos hb]
      · rw [if_neg (fun q => hb q.1), if_neg hb]
  exact this rc (Nat.le_refl _)
theorem clr_at {st : Nat → Int32} {b : Int32} (hb : ¬ bandI (-1) = b) : ∀ k r, itr (fun r s => if bandI (s r) = b then upd s r (-1) else s) k st r = if r < k ∧ bandI (st r) = b then -1 else st r := by
  intro k
  induction k with
  | zero => intro r; rw [if_neg (fun q => by omega)]; rfl
  | succ k ih =>
    intro r
    simp only [itr]
    have hk := ih k
    rw [if_neg (fun q => by omega)] at hk
    rw [hk]
    by_cases h1 : bandI (st k) = b
    · rw [if_pos h1, show ∀ F : Nat → Int32, upd F k (-1) r = if r = k then -1 else F r from fun _ => rfl]
      by_cases h2 : r = k
      · subst h2; rw [if_pos rfl, if_pos ⟨by omega, h1⟩]
      · rw [if_neg h2, ih r]
        by_cases h3 : r < k ∧ bandI (st r) = b
        · rw [if_pos h3, if_pos ⟨by omega, h3.2⟩]
        · rw [if_neg h3, if_neg (fun q => h3 ⟨by omega, q.2⟩)]
    · rw [if_neg h1, ih r]
      by_cases h3 : r < k ∧ bandI (st r) = b
      · rw [if_pos h3, if_pos ⟨by omega, h3.2⟩]
      · rw [if_neg h3, if_neg (fun q => h3 ⟨by
          have h4 := q.1
          by_cases h2 : r = k
          · subst h2; exact absurd q.2 h1
          · omega, q.2⟩)]
theorem bst_free (wd vt st : Nat → Int32) (w : Int32) : ∀ k : Nat, (itr (bestP wd vt st w) k (-1, -1)).1 = -1 ∨ ∃ j, j < k ∧ (itr (bestP wd vt st w) k (-1, -1)).1 = nI j ∧ st j = -1 := by
  intro k
  induction k with
  | zero => exact Or.inl rfl
  | succ k ih =>
    show (bestP wd vt st w k (itr (bestP wd vt st w) k (-1, -1))).1 = -1 ∨ ∃ j, j < k + 1 ∧ (bestP wd vt st w k (itr (bestP wd vt st w) k (-1, -1))).1 = nI j ∧ st j = -1
    unfold bestP
    split
    · next q => exact Or.inr ⟨k, by omega, rfl, q.1⟩
    · rcases ih with h | ⟨j, h1, h2⟩
      · exact Or.inl h
      · exact Or.inr ⟨j, by omega, h2⟩
theorem elTo_I {wd vt ws : Nat → Int32} {rc : Nat} {s : Nat → Int32} {seat : Nat} (hrc : rc ≤ 20) (hs : seatI s rc) (h18 : seat < 18) (hf : ∀ r, r < rc → ¬ s r = nI seat) : seatI (elTo wd vt ws rc s seat) rc ∧ ∀ r, r < rc → elTo wd vt ws rc s seat r = s r ∨ elTo wd vt ws rc s seat r = nI seat := by
  unfold elTo
  split
  · exact ⟨hs, fun r hr => Or.inl rfl⟩
  · next hb =>
    rcases bst_free wd vt s (ws seat) rc with h1 | ⟨j, h1, h2, h3⟩
    · exact absurd h1 hb
    · have h2 : bestI wd vt s rc (ws seat) = nI j := h2
      rw [h2, nI_clamp (by omega)]
      refine ⟨fun r hr => ⟨?_, fun q hq he hn => ?_⟩, fun r hr => ?_⟩
      · unfold upd
        split
        · exact Or.inr ⟨seat, h18, rfl⟩
        · exact (hs r hr).1
      · unfold upd at he hn
        by_cases hrj : r = j
        · rw [if_pos hrj] at he hn
          by_cases hqj : q = j
          · omega
          · rw [if_neg hqj] at he
            exact absurd he.symm (hf q hq)
        · rw [if_neg hrj] at he hn
          by_cases hqj : q = j
          · rw [if_pos hqj] at he
            exact absurd he (hf r hr)
          · rw [if_neg hqj] at he
            exact (hs r hr).2 q hq he hn
      · unfold upd
        split
        · exact Or.inr rfl
        · exact Or.inl rfl
theorem elB_I {wd vt ws : Nat → Int32} {rc : Nat} {st : Nat → Int32} {b : Nat} (hrc : rc ≤ 20) (hb3 : b < 3) (hs : seatI st rc) : seatI (elB wd vt ws rc st b) rc := by
  have hb1 : ¬ bandI (-1) = nI b := band_no hb3
  have h0 : ∀ r, clrB st rc (nI b) r = if r < rc ∧ bandI (st r) = nI b then -1 else st r := clr_at hb1 rc
  have h1 : seatI (clrB st rc (nI b)) rc ∧ ∀ r, r < rc → ∀ j, 0 ≤ j → j < 6 → ¬ clrB st rc (nI b) r = nI (b * 6 + j) := by
    refine ⟨fun r hr => ⟨?_, fun q hq he hn => ?_⟩, fun r hr j _ hj he => ?_⟩
    · rw [h0]; split
      · exact so_none
      · exact (hs r hr).1
    · rw [h0] at he hn
      rw [h0] at he
      split at hn
      · exact absurd rfl hn
      · next q1 =>
        rw [if_neg q1] at he
        split at he
        · exact absurd he hn
        · exact (hs r hr).2 q hq he hn
    · rw [h0] at he
      split at he
      · exact (so_dec (b * 6 + j) (by omega)).1 he.symm
      · next q1 =>
        refine q1 ⟨hr, ?_⟩
        rw [he]
        exact (so_band (Or.inr ⟨b * 6 + j, by omega, rfl⟩) hb3).mpr ⟨(so_dec (b * 6 + j) (by omega)).2.1, by rw [(so_dec (b * 6 + j) (by omega)).2.2.1]; congr 1; omega⟩
  have h2 : ∀ k, k ≤ 6 → seatI (itr (fun k s => elTo wd vt ws rc s (b * 6 + k)) k (clrB st rc (nI b))) rc ∧ ∀ r, r < rc → ∀ j, k ≤ j → j < 6 → ¬ itr (fun k s => elTo wd vt ws rc s (b * 6 + k)) k (clrB st rc (nI b)) r = nI (b * 6 + j) := by
    intro k
    induction k with
    | zero => intro _; exact h1
    | succ k ih =>
      intro hk
      obtain ⟨i1, i2⟩ := ih (by omega)
      obtain ⟨e1, e2⟩ := elTo_I (wd := wd) (vt := vt) (ws := ws) hrc i1 (show b * 6 + k < 18 by omega) fun r hr => i2 r hr k (Nat.le_refl k) (by omega)
      refine ⟨e1, fun r hr j hj hj6 he => ?_⟩
      rcases e2 r hr with e3 | e3
      · exact i2 r hr j (by omega) hj6 (e3.symm.trans he)
      · have e4 := (gn_eq (by omega)).mp (e3.symm.trans he)
        omega
  exact (h2 6 (Nat.le_refl 6)).1
theorem el3_I {wd vt ws : Nat → Int32} {rc : Nat} {st : Nat → Int32} (hrc : rc ≤ 20) (hs : seatI st rc) : ∀ k, k ≤ 3 → seatI (itr (fun b s => elB wd vt ws rc s b) k st) rc :=
  itr_inv (I := fun s => seatI s rc) hs fun b s hb h => elB_I hrc hb h
theorem day_I {wd vt ws : Nat → Int32} {rc : Nat} {z : (Nat → Int32) × (Nat → Int32) × Int32} (hrc : rc ≤ 20) (hs : seatI z.2.1 rc) : seatI (dayI wd vt ws rc z).2.1 rc := by
  unfold dayI
  show seatI (if z.2.2 - z.2.2 / nI 7 * nI 7 = nI 6 then el3 wd vt ws rc z.2.1 else z.2.1) rc
  split
  · exact el3_I hrc hs 3 (Nat.le_refl 3)
  · exact hs
theorem days_I {wd vt ws : Nat → Int32} {rc d : Nat} {z : (Nat → Int32) × (Nat → Int32) × Int32} (hrc : rc ≤ 20) (hs : seatI z.2.1 rc) : ∀ k, k ≤ d → seatI (itr (fun _ s => dayI wd vt ws rc s) k z).2.1 rc :=
  itr_inv (I := fun (s : (Nat → Int32) × (Nat → Int32) × Int32) => seatI s.2.1 rc) hs fun _ _ _ h => day_I hrc h
/-! the model: walks -/
def swP (c : Int32) (j : Nat) (s : (Nat → Nat) × (Nat → Int32)) : (Nat → Nat) × (Nat → Int32) := if (c >>> (nI j &&& 31)) &&& nI 1 = 0 then s else (fun x => if x = j + 1 then s.1 j else if x = j then s.1 (j + 1) else s.1 x, upd (upd s.2 (s.1 j) (nI 1)) (s.1 (j + 1)) (-1))
def swI (c : Int32) (p : Nat → Nat) : (Nat → Nat) × (Nat → Int32) := itr (swP c) 5 (p, fun _ => 0)
theorem swP_ok {c : Int32} {j : Nat} (hj : j < 5) {s : (Nat → Nat) × (Nat → Int32)} (h : vplc s.1) : vplc (swP c j s).1 := by
  unfold swP
  split
  · exact h
  · intro x hx
    show (if x = j + 1 then s.1 j else if x = j then s.1 (j + 1) else s.1 x) < 6
    split
    · exact h j (by omega)
    · split
      · exact h (j + 1) (by omega)
      · exact h x hx
theorem swI_ok {c : Int32} {p : Nat → Nat} (h : vplc p) : ∀ k, k ≤ 5 → vplc (itr (swP c) k (p, fun _ => 0)).1 :=
  itr_inv (I := fun (s : (Nat → Nat) × (Nat → Int32)) => vplc s.1) h fun _ _ hj hs => swP_ok hj hs
/-- a row and the way its bells went -/
abbrev WK : Type := (Nat → Nat) × (Nat → Int32)
def wkS (c : Int32) (s : WK) : WK := swI c s.1
def wk0 : WK := (fun b => b, fun _ => nI 0)
def wkI (ch : Nat → Int32) (k : Nat) : WK := itr (fun i s => wkS (ch i) s) k wk0
theorem wkI_ok (ch : Nat → Int32) : ∀ k, vplc (wkI ch k).1 := fun k =>
  itr_inv (N := k) (I := fun (s : WK) => vplc s.1) (fun _ h => h) (fun _ _ _ hs => swI_ok hs 5 (Nat.le_refl 5)) k (Nat.le_refl k)
def dgP (go we : Nat → Int32) (b : Nat) (d : Int32) : Int32 := if go b * we b < 0 then d ||| (nI 1 <<< (nI b &&& 31)) else d
def dgI (go we : Nat → Int32) : Int32 := itr (dgP go we) 6 0
def codN (p : Nat → Nat) : Nat := itr (fun i s => 6 * s + p i) 6 0
theorem codN_lt {p : Nat → Nat} (hp : vplc p) : codN p < 46656 := by
  have h0 := hp 0 (by omega); have h1 := hp 1 (by omega); have h2 := hp 2 (by omega); have h3 := hp 3 (by omega); have h4 := hp 4 (by omega); have h5 := hp 5 (by omega)
  show 6 * (6 * (6 * (6 * (6 * (6 * 0 + p 0) + p 1) + p 2) + p 3) + p 4) + p 5 < 46656
  omega
/-- codes and dodges of a walk -/
def codI (ch : Nat → Int32) (k : Nat) : Int32 := nI (codN (wkI ch k).1)
def ddgI (ch : Nat → Int32) (k : Nat) : Int32 := dgI (wkS (ch k) (wkI ch k)).2 (wkI ch k).2
