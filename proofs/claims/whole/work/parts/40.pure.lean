/-! pure: a touch of the class and a walk of the model are one -/
theorem itr_add {σ : Type} {f : Nat → σ → σ} {s : σ} (a : Nat) : ∀ b, itr f (a + b) s = itr (fun i => f (a + i)) b (itr f a s)
  | 0 => rfl
  | b + 1 => by
    show f (a + b) (itr f (a + b) s) = f (a + b) (itr (fun i => f (a + i)) b (itr f a s))
    rw [itr_add a b]
theorem mod_at {L m i : Nat} (hi : i < m) : (L * m + i) % m = i := by
  rw [Nat.mul_comm, Nat.mul_add_mod, Nat.mod_eq_of_lt hi]
theorem itr_flat {σ : Type} {F : Nat → σ → σ} {m : Nat} {s : σ} : ∀ L, itr (fun _ s => itr (fun i s => F i s) m s) L s = itr (fun q s => F (q % m) s) (L * m) s := by
  intro L
  induction L with
  | zero => rw [Nat.zero_mul]; rfl
  | succ L ih =>
    show itr (fun i s => F i s) m (itr (fun _ s => itr (fun i s => F i s) m s) L s) = _
    rw [ih, Nat.succ_mul, itr_add]
    exact itr_cg (fun i s hi => by rw [mod_at hi]) m (Nat.le_refl m)
/-- the place that a change leads to -/
def fpl (c : Int32) (x : Nat) : Nat := (nI x + mvI (nI x) c).toNatClampNeg
set_option maxRecDepth 20000 in
theorem fpl_dec : ∀ d, d < 32 → d &&& (d >>> 1) = 0 → ∀ x, x < 6 → fpl (nI d) x < 6 ∧ fpl (nI d) (fpl (nI d) x) = x := by decide +kernel
def inj6 (row : Nat → Nat) : Prop := ∀ x y, x < 6 → y < 6 → (row x = row y ↔ x = y)
def SWK (row : Nat → Nat) (d : Nat) : Prop := ∀ x, x < 6 → (swI (nI d) row).1 x = row (fpl (nI d) x) ∧ (swI (nI d) row).2 (row x) = mvI (nI x) (nI d)
theorem sw_0 {row : Nat → Nat} (hj : inj6 row) : SWK row 0 := by
  have e0 : ∀ s : (Nat → Nat) × (Nat → Int32), swP (nI 0) 0 s = s := fun s => if_pos (by decide)
  have e1 : ∀ s : (Nat → Nat) × (Nat → Int32), swP (nI 0) 1 s = s := fun s => if_pos (by decide)
  have e2 : ∀ s : (Nat → Nat) × (Nat → Int32), swP (nI 0) 2 s = s := fun s => if_pos (by decide)
  have e3 : ∀ s : (Nat → Nat) × (Nat → Int32), swP (nI 0) 3 s = s := fun s => if_pos (by decide)
  have e4 : ∀ s : (Nat → Nat) × (Nat → Int32), swP (nI 0) 4 s = s := fun s => if_pos (by decide)
  have e : swI (nI 0) row = swP (nI 0) 4 (swP (nI 0) 3 (swP (nI 0) 2 (swP (nI 0) 1 (swP (nI 0) 0 (row, fun _ => 0))))) := rfl
  rw [e0, e1, e2, e3, e4] at e
  intro x hx
  rw [e]
  rcases (show x = 0 ∨ x = 1 ∨ x = 2 ∨ x = 3 ∨ x = 4 ∨ x = 5 by omega) with rfl | rfl | rfl | rfl | rfl | rfl
  · rw [show fpl (nI 0) 0 = 0 from by decide, show mvI (nI 0) (nI 0) = 0 from by decide]
    refine ⟨?_, ?_⟩
    · first | rfl | simp
    · simp [upd, hj 0 1 (by decide) (by decide), hj 0 2 (by decide) (by decide), hj 0 3 (by decide) (by decide), hj 0 4 (by decide) (by decide), hj 0 5 (by decide) (by decide)]
  · rw [show fpl (nI 0) 1 = 1 from by decide, show mvI (nI 1) (nI 0) = 0 from by decide]
    refine ⟨?_, ?_⟩
    · first | rfl | simp
    · simp [upd, hj 1 0 (by decide) (by decide), hj 1 2 (by decide) (by decide), hj 1 3 (by decide) (by decide), hj 1 4 (by decide) (by decide), hj 1 5 (by decide) (by decide)]
  · rw [show fpl (nI 0) 2 = 2 from by decide, show mvI (nI 2) (nI 0) = 0 from by decide]
    refine ⟨?_, ?_⟩
    · first | rfl | simp
    · simp [upd, hj 2 0 (by decide) (by decide), hj 2 1 (by decide) (by decide), hj 2 3 (by decide) (by decide), hj 2 4 (by decide) (by decide), hj 2 5 (by decide) (by decide)]
  · rw [show fpl (nI 0) 3 = 3 from by decide, show mvI (nI 3) (nI 0) = 0 from by decide]
    refine ⟨?_, ?_⟩
    · first | rfl | simp
    · simp [upd, hj 3 0 (by decide) (by decide), hj 3 1 (by decide) (by decide), hj 3 2 (by decide) (by decide), hj 3 4 (by decide) (by decide), hj 3 5 (by decide) (by decide)]
  · rw [show fpl (nI 0) 4 = 4 from by decide, show mvI (nI 4) (nI 0) = 0 from by decide]
    refine ⟨?_, ?_⟩
    · first | rfl | simp
    · simp [upd, hj 4 0 (by decide) (by decide), hj 4 1 (by decide) (by decide), hj 4 2 (by decide) (by decide), hj 4 3 (by decide) (by decide), hj 4 5 (by decide) (by decide)]
  · rw [show fpl (nI 0) 5 = 5 from by decide, show mvI (nI 5) (nI 0) = 0 from by decide]
    refine ⟨?_, ?_⟩
    · first | rfl | simp
    · simp [upd, hj 5 0 (by decide) (by decide), hj 5 1 (by decide) (by decide), hj 5 2 (by decide) (by decide), hj 5 3 (by decide) (by decide), hj 5 4 (by decide) (by decide)]
theorem sw_1 {row : Nat → Nat} (hj : inj6 row) : SWK row 1 := by
  have e0 : ∀ s : (Nat → Nat) × (Nat → Int32), swP (nI 1) 0 s = (fun x => if x = 0 + 1 then s.1 0 else if x = 0 then s.1 (0 + 1) else s.1 x, upd (upd s.2 (s.1 0) (nI 1)) (s.1 (0 + 1)) (-1)) := fun s => if_neg (by decide)
  have e1 : ∀ s : (Nat → Nat) × (Nat → Int32), swP (nI 1) 1 s = s := fun s => if_pos (by decide)
  have e2 : ∀ s : (Nat → Nat) × (Nat → Int32), swP (nI 1) 2 s = s := fun s => if_pos (by decide)
  have e3 : ∀ s : (Nat → Nat) × (Nat → Int32), swP (nI 1) 3 s = s := fun s => if_pos (by decide)
  have e4 : ∀ s : (Nat → Nat) × (Nat → Int32), swP (nI 1) 4 s = s := fun s => if_pos (by decide)
  have e : swI (nI 1) row = swP (nI 1) 4 (swP (nI 1) 3 (swP (nI 1) 2 (swP (nI 1) 1 (swP (nI 1) 0 (row, fun _ => 0))))) := rfl
  rw [e0, e1, e2, e3, e4] at e
  intro x hx
  rw [e]
  rcases (show x = 0 ∨ x = 1 ∨ x = 2 ∨ x = 3 ∨ x = 4 ∨ x = 5 by omega) with rfl | rfl | rfl | rfl | rfl | rfl
  · rw [show fpl (nI 1) 0 = 1 from by decide, show mvI (nI 0) (nI 1) = nI 1 from by decide]
    refine ⟨?_, ?_⟩
    · first | rfl | simp
    · simp [upd, hj 0 1 (by decide) (by decide), hj 0 2 (by decide) (by decide), hj 0 3 (by decide) (by decide), hj 0 4 (by decide) (by decide), hj 0 5 (by decide) (by decide)]
  · rw [show fpl (nI 1) 1 = 0 from by decide, show mvI (nI 1) (nI 1) = -1 from by decide]
    refine ⟨?_, ?_⟩
    · first | rfl | simp
    · simp [upd, hj 1 0 (by decide) (by decide), hj 1 2 (by decide) (by decide), hj 1 3 (by decide) (by decide), hj 1 4 (by decide) (by decide), hj 1 5 (by decide) (by decide)]
  · rw [show fpl (nI 1) 2 = 2 from by decide, show mvI (nI 2) (nI 1) = 0 from by decide]
    refine ⟨?_, ?_⟩
    · first | rfl | simp
    · simp [upd, hj 2 0 (by decide) (by decide), hj 2 1 (by decide) (by decide), hj 2 3 (by decide) (by decide), hj 2 4 (by decide) (by decide), hj 2 5 (by decide) (by decide)]
  · rw [show fpl (nI 1) 3 = 3 from by decide, show mvI (nI 3) (nI 1) = 0 from by decide]
    refine ⟨?_, ?_⟩
    · first | rfl | simp
    · simp [upd, hj 3 0 (by decide) (by decide), hj 3 1 (by decide) (by decide), hj 3 2 (by decide) (by decide), hj 3 4 (by decide) (by decide), hj 3 5 (by decide) (by decide)]
  · rw [show fpl (nI 1) 4 = 4 from by decide, show mvI (nI 4) (nI 1) = 0 from by decide]
    refine ⟨?_, ?_⟩
    · first | rfl | simp
    · simp [upd, hj 4 0 (by decide) (by decide), hj 4 1 (by decide) (by decide), hj 4 2 (by decide) (by decide), hj 4 3 (by decide) (by decide), hj 4 5 (by decide) (by decide)]
  · rw [show fpl (nI 1) 5 = 5 from by decide, show mvI (nI 5) (nI 1) = 0 from by decide]
    refine ⟨?_, ?_⟩
    · first | rfl | simp
    · simp [upd, hj 5 0 (by decide) (by decide), hj 5 1 (by decide) (by decide), hj 5 2 (by decide) (by decide), hj 5 3 (by decide) (by decide), hj 5 4 (by decide) (by decide)]
theorem sw_2 {row : Nat → Nat} (hj : inj6 row) : SWK row 2 := by
  have e0 : ∀ s : (Nat → Nat) × (Nat → Int32), swP (nI 2) 0 s = s := fun s => if_pos (by decide)
  have e1 : ∀ s : (Nat → Nat) × (Nat → Int32), swP (nI 2) 1 s = (fun x => if x = 1 + 1 then s.1 1 else if x = 1 then s.1 (1 + 1) else s.1 x, upd (upd s.2 (s.1 1) (nI 1)) (s.1 (1 + 1)) (-1)) := fun s => if_neg (by decide)
  have e2 : ∀ s : (Nat → Nat) × (Nat → Int32), swP (nI 2) 2 s = s := fun s => if_pos (by decide)
  have e3 : ∀ s : (Nat → Nat) × (Nat → Int32), swP (nI 2) 3 s = s := fun s => if_pos (by decide)
  have e4 : ∀ s : (Nat → Nat) × (Nat → Int32), swP (nI 2) 4 s = s := fun s => if_pos (by decide)
  have e : swI (nI 2) row = swP (nI 2) 4 (swP (nI 2) 3 (swP (nI 2) 2 (swP (nI 2) 1 (swP (nI 2) 0 (row, fun _ => 0))))) := rfl
  rw [e0, e1, e2, e3, e4] at e
  intro x hx
  rw [e]
  rcases (show x = 0 ∨ x = 1 ∨ x = 2 ∨ x = 3 ∨ x = 4 ∨ x = 5 by omega) with rfl | rfl | rfl | rfl | rfl | rfl
  · rw [show fpl (nI 2) 0 = 0 from by decide, show mvI (nI 0) (nI 2) = 0 from by decide]
    refine ⟨?_, ?_⟩
    · first | rfl | simp
    · simp [upd, hj 0 1 (by decide) (by decide), hj 0 2 (by decide) (by decide), hj 0 3 (by decide) (by decide), hj 0 4 (by decide) (by decide), hj 0 5 (by decide) (by decide)]
  · rw [show fpl (nI 2) 1 = 2 from by decide, show mvI (nI 1) (nI 2) = nI 1 from by decide]
    refine ⟨?_, ?_⟩
    · first | rfl | simp
    · simp [upd, hj 1 0 (by decide) (by decide), hj 1 2 (by decide) (by decide), hj 1 3 (by decide) (by decide), hj 1 4 (by decide) (by decide), hj 1 5 (by decide) (by decide)]
  · rw [show fpl (nI 2) 2 = 1 from by decide, show mvI (nI 2) (nI 2) = -1 from by decide]
    refine ⟨?_, ?_⟩
    · first | rfl | simp
    · simp [upd, hj 2 0 (by decide) (by decide), hj 2 1 (by decide) (by decide), hj 2 3 (by decide) (by decide), hj 2 4 (by decide) (by decide), hj 2 5 (by decide) (by decide)]
  · rw [show fpl (nI 2) 3 = 3 from by decide, show mvI (nI 3) (nI 2) = 0 from by decide]
    refine ⟨?_, ?_⟩
    · first | rfl | simp
    · simp [upd, hj 3 0 (by decide) (by decide), hj 3 1 (by decide) (by decide), hj 3 2 (by decide) (by decide), hj 3 4 (by decide) (by decide), hj 3 5 (by decide) (by decide)]
  · rw [show fpl (nI 2) 4 = 4 from by decide, show mvI (nI 4) (nI 2) = 0 from by decide]
    refine ⟨?_, ?_⟩
    · first | rfl | simp
    · simp [upd, hj 4 0 (by decide) (by decide), hj 4 1 (by decide) (by decide), hj 4 2 (by decide) (by decide), hj 4 3 (by decide) (by decide), hj 4 5 (by decide) (by decide)]
  · rw [show fpl (nI 2) 5 = 5 from by decide, show mvI (nI 5) (nI 2) = 0 from by decide]
    refine ⟨?_, ?_⟩
    · first | rfl | simp
    · simp [upd, hj 5 0 (by decide) (by decide), hj 5 1 (by decide) (by decide), hj 5 2 (by decide) (by decide), hj 5 3 (by decide) (by decide), hj 5 4 (by decide) (by decide)]
theorem sw_4 {row : Nat → Nat} (hj : inj6 row) : SWK row 4 := by
  have e0 : ∀ s : (Nat → Nat) × (Nat → Int32), swP (nI 4) 0 s = s := fun s => if_pos (by decide)
  have e1 : ∀ s : (Nat → Nat) × (Nat → Int32), swP (nI 4) 1 s = s := fun s => if_pos (by decide)
  have e2 : ∀ s : (Nat → Nat) × (Nat → Int32), swP (nI 4) 2 s = (fun x => if x = 2 + 1 then s.1 2 else if x = 2 then s.1 (2 + 1) else s.1 x, upd (upd s.2 (s.1 2) (nI 1)) (s.1 (2 + 1)) (-1)) := fun s => if_neg (by decide)
  have e3 : ∀ s : (Nat → Nat) × (Nat → Int32), swP (nI 4) 3 s = s := fun s => if_pos (by decide)
  have e4 : ∀ s : (Nat → Nat) × (Nat → Int32), swP (nI 4) 4 s = s := fun s => if_pos (by decide)
  have e : swI (nI 4) row = swP (nI 4) 4 (swP (nI 4) 3 (swP (nI 4) 2 (swP (nI 4) 1 (swP (nI 4) 0 (row, fun _ => 0))))) := rfl
  rw [e0, e1, e2, e3, e4] at e
  intro x hx
  rw [e]
  rcases (show x = 0 ∨ x = 1 ∨ x = 2 ∨ x = 3 ∨ x = 4 ∨ x = 5 by omega) with rfl | rfl | rfl | rfl | rfl | rfl
  · rw [show fpl (nI 4) 0 = 0 from by decide, show mvI (nI 0) (nI 4) = 0 from by decide]
    refine ⟨?_, ?_⟩
    · first | rfl | simp
    · simp [upd, hj 0 1 (by decide) (by decide), hj 0 2 (by decide) (by decide), hj 0 3 (by decide) (by decide), hj 0 4 (by decide) (by decide), hj 0 5 (by decide) (by decide)]
  · rw [show fpl (nI 4) 1 = 1 from by decide, show mvI (nI 1) (nI 4) = 0 from by decide]
    refine ⟨?_, ?_⟩
    · first | rfl | simp
    · simp [upd, hj 1 0 (by decide) (by decide), hj 1 2 (by decide) (by decide), hj 1 3 (by decide) (by decide), hj 1 4 (by decide) (by decide), hj 1 5 (by decide) (by decide)]
  · rw [show fpl (nI 4) 2 = 3 from by decide, show mvI (nI 2) (nI 4) = nI 1 from by decide]
    refine ⟨?_, ?_⟩
    · first | rfl | simp
    · simp [upd, hj 2 0 (by decide) (by decide), hj 2 1 (by decide) (by decide), hj 2 3 (by decide) (by decide), hj 2 4 (by decide) (by decide), hj 2 5 (by decide) (by decide)]
  · rw [show fpl (nI 4) 3 = 2 from by decide, show mvI (nI 3) (nI 4) = -1 from by decide]
    refine ⟨?_, ?_⟩
    · first | rfl | simp
    · simp [upd, hj 3 0 (by decide) (by decide), hj 3 1 (by decide) (by decide), hj 3 2 (by decide) (by decide), hj 3 4 (by decide) (by decide), hj 3 5 (by decide) (by decide)]
  · rw [show fpl (nI 4) 4 = 4 from by decide, show mvI (nI 4) (nI 4) = 0 from by decide]
    refine ⟨?_, ?_⟩
    · first | rfl | simp
    · simp [upd, hj 4 0 (by decide) (by decide), hj 4 1 (by decide) (by decide), hj 4 2 (by decide) (by decide), hj 4 3 (by decide) (by decide), hj 4 5 (by decide) (by decide)]
  · rw [show fpl (nI 4) 5 = 5 from by decide, show mvI (nI 5) (nI 4) = 0 from by decide]
    refine ⟨?_, ?_⟩
    · first | rfl | simp
    · simp [upd, hj 5 0 (by decide) (by decide), hj 5 1 (by decide) (by decide), hj 5 2 (by decide) (by decide), hj 5 3 (by decide) (by decide), hj 5 4 (by decide) (by decide)]
theorem sw_5 {row : Nat → Nat} (hj : inj6 row) : SWK row 5 := by
  have e0 : ∀ s : (Nat → Nat) × (Nat → Int32), swP (nI 5) 0 s = (fun x => if x = 0 + 1 then s.1 0 else if x = 0 then s.1 (0 + 1) else s.1 x, upd (upd s.2 (s.1 0) (nI 1)) (s.1 (0 + 1)) (-1)) := fun s => if_neg (by decide)
  have e1 : ∀ s : (Nat → Nat) × (Nat → Int32), swP (nI 5) 1 s = s := fun s => if_pos (by decide)
  have e2 : ∀ s : (Nat → Nat) × (Nat → Int32), swP (nI 5) 2 s = (fun x => if x = 2 + 1 then s.1 2 else if x = 2 then s.1 (2 + 1) else s.1 x, upd (upd s.2 (s.1 2) (nI 1)) (s.1 (2 + 1)) (-1)) := fun s => if_neg (by decide)
  have e3 : ∀ s : (Nat → Nat) × (Nat → Int32), swP (nI 5) 3 s = s := fun s => if_pos (by decide)
  have e4 : ∀ s : (Nat → Nat) × (Nat → Int32), swP (nI 5) 4 s = s := fun s => if_pos (by decide)
  have e : swI (nI 5) row = swP (nI 5) 4 (swP (nI 5) 3 (swP (nI 5) 2 (swP (nI 5) 1 (swP (nI 5) 0 (row, fun _ => 0))))) := rfl
  rw [e0, e1, e2, e3, e4] at e
  intro x hx
  rw [e]
  rcases (show x = 0 ∨ x = 1 ∨ x = 2 ∨ x = 3 ∨ x = 4 ∨ x = 5 by omega) with rfl | rfl | rfl | rfl | rfl | rfl
  · rw [show fpl (nI 5) 0 = 1 from by decide, show mvI (nI 0) (nI 5) = nI 1 from by decide]
    refine ⟨?_, ?_⟩
    · first | rfl | simp
    · simp [upd, hj 0 1 (by decide) (by decide), hj 0 2 (by decide) (by decide), hj 0 3 (by decide) (by decide), hj 0 4 (by decide) (by decide), hj 0 5 (by decide) (by decide)]
  · rw [show fpl (nI 5) 1 = 0 from by decide, show mvI (nI 1) (nI 5) = -1 from by decide]
    refine ⟨?_, ?_⟩
    · first | rfl | simp
    · simp [upd, hj 1 0 (by decide) (by decide), hj 1 2 (by decide) (by decide), hj 1 3 (by decide) (by decide), hj 1 4 (by decide) (by decide), hj 1 5 (by decide) (by decide)]
  · rw [show fpl (nI 5) 2 = 3 from by decide, show mvI (nI 2) (nI 5) = nI 1 from by decide]
    refine ⟨?_, ?_⟩
    · first | rfl | simp
    · simp [upd, hj 2 0 (by decide) (by decide), hj 2 1 (by decide) (by decide), hj 2 3 (by decide) (by decide), hj 2 4 (by decide) (by decide), hj 2 5 (by decide) (by decide)]
  · rw [show fpl (nI 5) 3 = 2 from by decide, show mvI (nI 3) (nI 5) = -1 from by decide]
    refine ⟨?_, ?_⟩
    · first | rfl | simp
    · simp [upd, hj 3 0 (by decide) (by decide), hj 3 1 (by decide) (by decide), hj 3 2 (by decide) (by decide), hj 3 4 (by decide) (by decide), hj 3 5 (by decide) (by decide)]
  · rw [show fpl (nI 5) 4 = 4 from by decide, show mvI (nI 4) (nI 5) = 0 from by decide]
    refine ⟨?_, ?_⟩
    · first | rfl | simp
    · simp [upd, hj 4 0 (by decide) (by decide), hj 4 1 (by decide) (by decide), hj 4 2 (by decide) (by decide), hj 4 3 (by decide) (by decide), hj 4 5 (by decide) (by decide)]
  · rw [show fpl (nI 5) 5 = 5 from by decide, show mvI (nI 5) (nI 5) = 0 from by decide]
    refine ⟨?_, ?_⟩
    · first | rfl | simp
    · simp [upd, hj 5 0 (by decide) (by decide), hj 5 1 (by decide) (by decide), hj 5 2 (by decide) (by decide), hj 5 3 (by decide) (by decide), hj 5 4 (by decide) (by decide)]
theorem sw_8 {row : Nat → Nat} (hj : inj6 row) : SWK row 8 := by
  have e0 : ∀ s : (Nat → Nat) × (Nat → Int32), swP (nI 8) 0 s = s := fun s => if_pos (by decide)
  have e1 : ∀ s : (Nat → Nat) × (Nat → Int32), swP (nI 8) 1 s = s := fun s => if_pos (by decide)
  have e2 : ∀ s : (Nat → Nat) × (Nat → Int32), swP (nI 8) 2 s = s := fun s => if_pos (by decide)
  have e3 : ∀ s : (Nat → Nat) × (Nat → Int32), swP (nI 8) 3 s = (fun x => if x = 3 + 1 then s.1 3 else if x = 3 then s.1 (3 + 1) else s.1 x, upd (upd s.2 (s.1 3) (nI 1)) (s.1 (3 + 1)) (-1)) := fun s => if_neg (by decide)
  have e4 : ∀ s : (Nat → Nat) × (Nat → Int32), swP (nI 8) 4 s = s := fun s => if_pos (by decide)
  have e : swI (nI 8) row = swP (nI 8) 4 (swP (nI 8) 3 (swP (nI 8) 2 (swP (nI 8) 1 (swP (nI 8) 0 (row, fun _ => 0))))) := rfl
  rw [e0, e1, e2, e3, e4] at e
  intro x hx
  rw [e]
  rcases (show x = 0 ∨ x = 1 ∨ x = 2 ∨ x = 3 ∨ x = 4 ∨ x = 5 by omega) with rfl | rfl | rfl | rfl | rfl | rfl
  · rw [show fpl (nI 8) 0 = 0 from by decide, show mvI (nI 0) (nI 8) = 0 from by decide]
    refine ⟨?_, ?_⟩
    · first | rfl | simp
    · simp [upd, hj 0 1 (by decide) (by decide), hj 0 2 (by decide) (by decide), hj 0 3 (by decide) (by decide), hj 0 4 (by decide) (by decide), hj 0 5 (by decide) (by decide)]
  · rw [show fpl (nI 8) 1 = 1 from by decide, show mvI (nI 1) (nI 8) = 0 from by decide]
    refine ⟨?_, ?_⟩
    · first | rfl | simp
    · simp [upd, hj 1 0 (by decide) (by decide), hj 1 2 (by decide) (by decide), hj 1 3 (by decide) (by decide), hj 1 4 (by decide) (by decide), hj 1 5 (by decide) (by decide)]
  · rw [show fpl (nI 8) 2 = 2 from by decide, show mvI (nI 2) (nI 8) = 0 from by decide]
    refine ⟨?_, ?_⟩
    · first | rfl | simp
    · simp [upd, hj 2 0 (by decide) (by decide), hj 2 1 (by decide) (by decide), hj 2 3 (by decide) (by decide), hj 2 4 (by decide) (by decide), hj 2 5 (by decide) (by decide)]
  · rw [show fpl (nI 8) 3 = 4 from by decide, show mvI (nI 3) (nI 8) = nI 1 from by decide]
    refine ⟨?_, ?_⟩
    · first | rfl | simp
    · simp [upd, hj 3 0 (by decide) (by decide), hj 3 1 (by decide) (by decide), hj 3 2 (by decide) (by decide), hj 3 4 (by decide) (by decide), hj 3 5 (by decide) (by decide)]
  · rw [show fpl (nI 8) 4 = 3 from by decide, show mvI (nI 4) (nI 8) = -1 from by decide]
    refine ⟨?_, ?_⟩
    · first | rfl | simp
    · simp [upd, hj 4 0 (by decide) (by decide), hj 4 1 (by decide) (by decide), hj 4 2 (by decide) (by decide), hj 4 3 (by decide) (by decide), hj 4 5 (by decide) (by decide)]
  · rw [show fpl (nI 8) 5 = 5 from by decide, show mvI (nI 5) (nI 8) = 0 from by decide]
    refine ⟨?_, ?_⟩
    · first | rfl | simp
    · simp [upd, hj 5 0 (by decide) (by decide), hj 5 1 (by decide) (by decide), hj 5 2 (by decide) (by decide), hj 5 3 (by decide) (by decide), hj 5 4 (by decide) (by decide)]
theorem sw_9 {row : Nat → Nat} (hj : inj6 row) : SWK row 9 := by
  have e0 : ∀ s : (Nat → Nat) × (Nat → Int32), swP (nI 9) 0 s = (fun x => if x = 0 + 1 then s.1 0 else if x = 0 then s.1 (0 + 1) else s.1 x, upd (upd s.2 (s.1 0) (nI 1)) (s.1 (0 + 1)) (-1)) := fun s => if_neg (by decide)
  have e1 : ∀ s : (Nat → Nat) × (Nat → Int32), swP (nI 9) 1 s = s := fun s => if_pos (by decide)
  have e2 : ∀ s : (Nat → Nat) × (Nat → Int32), swP (nI 9) 2 s = s := fun s => if_pos (by decide)
  have e3 : ∀ s : (Nat → Nat) × (Nat → Int32), swP (nI 9) 3 s = (fun x => if x = 3 + 1 then s.1 3 else if x = 3 then s.1 (3 + 1) else s.1 x, upd (upd s.2 (s.1 3) (nI 1)) (s.1 (3 + 1)) (-1)) := fun s => if_neg (by decide)
  have e4 : ∀ s : (Nat → Nat) × (Nat → Int32), swP (nI 9) 4 s = s := fun s => if_pos (by decide)
  have e : swI (nI 9) row = swP (nI 9) 4 (swP (nI 9) 3 (swP (nI 9) 2 (swP (nI 9) 1 (swP (nI 9) 0 (row, fun _ => 0))))) := rfl
  rw [e0, e1, e2, e3, e4] at e
  intro x hx
  rw [e]
  rcases (show x = 0 ∨ x = 1 ∨ x = 2 ∨ x = 3 ∨ x = 4 ∨ x = 5 by omega) with rfl | rfl | rfl | rfl | rfl | rfl
  · rw [show fpl (nI 9) 0 = 1 from by decide, show mvI (nI 0) (nI 9) = nI 1 from by decide]
    refine ⟨?_, ?_⟩
    · first | rfl | simp
    · simp [upd, hj 0 1 (by decide) (by decide), hj 0 2 (by decide) (by decide), hj 0 3 (by decide) (by decide), hj 0 4 (by decide) (by decide), hj 0 5 (by decide) (by decide)]
  · rw [show fpl (nI 9) 1 = 0 from by decide, show mvI (nI 1) (nI 9) = -1 from by decide]
    refine ⟨?_, ?_⟩
    · first | rfl | simp
    · simp [upd, hj 1 0 (by decide) (by decide), hj 1 2 (by decide) (by decide), hj 1 3 (by decide) (by decide), hj 1 4 (by decide) (by decide), hj 1 5 (by decide) (by decide)]
  · rw [show fpl (nI 9) 2 = 2 from by decide, show mvI (nI 2) (nI 9) = 0 from by decide]
    refine ⟨?_, ?_⟩
    · first | rfl | simp
    · simp [upd, hj 2 0 (by decide) (by decide), hj 2 1 (by decide) (by decide), hj 2 3 (by decide) (by decide), hj 2 4 (by decide) (by decide), hj 2 5 (by decide) (by decide)]
  · rw [show fpl (nI 9) 3 = 4 from by decide, show mvI (nI 3) (nI 9) = nI 1 from by decide]
    refine ⟨?_, ?_⟩
    · first | rfl | simp
    · simp [upd, hj 3 0 (by decide) (by decide), hj 3 1 (by decide) (by decide), hj 3 2 (by decide) (by decide), hj 3 4 (by decide) (by decide), hj 3 5 (by decide) (by decide)]
  · rw [show fpl (nI 9) 4 = 3 from by decide, show mvI (nI 4) (nI 9) = -1 from by decide]
    refine ⟨?_, ?_⟩
    · first | rfl | simp
    · simp [upd, hj 4 0 (by decide) (by decide), hj 4 1 (by decide) (by decide), hj 4 2 (by decide) (by decide), hj 4 3 (by decide) (by decide), hj 4 5 (by decide) (by decide)]
  · rw [show fpl (nI 9) 5 = 5 from by decide, show mvI (nI 5) (nI 9) = 0 from by decide]
    refine ⟨?_, ?_⟩
    · first | rfl | simp
    · simp [upd, hj 5 0 (by decide) (by decide), hj 5 1 (by decide) (by decide), hj 5 2 (by decide) (by decide), hj 5 3 (by decide) (by decide), hj 5 4 (by decide) (by decide)]
theorem sw_10 {row : Nat → Nat} (hj : inj6 row) : SWK row 10 := by
  have e0 : ∀ s : (Nat → Nat) × (Nat → Int32), swP (nI 10) 0 s = s := fun s => if_pos (by decide)
  have e1 : ∀ s : (Nat → Nat) × (Nat → Int32), swP (nI 10) 1 s = (fun x => if x = 1 + 1 then s.1 1 else if x = 1 then s.1 (1 + 1) else s.1 x, upd (upd s.2 (s.1 1) (nI 1)) (s.1 (1 + 1)) (-1)) := fun s => if_neg (by decide)
  have e2 : ∀ s : (Nat → Nat) × (Nat → Int32), swP (nI 10) 2 s = s := fun s => if_pos (by decide)
  have e3 : ∀ s : (Nat → Nat) × (Nat → Int32), swP (nI 10) 3 s = (fun x => if x = 3 + 1 then s.1 3 else if x = 3 then s.1 (3 + 1) else s.1 x, upd (upd s.2 (s.1 3) (nI 1)) (s.1 (3 + 1)) (-1)) := fun s => if_neg (by decide)
  have e4 : ∀ s : (Nat → Nat) × (Nat → Int32), swP (nI 10) 4 s = s := fun s => if_pos (by decide)
  have e : swI (nI 10) row = swP (nI 10) 4 (swP (nI 10) 3 (swP (nI 10) 2 (swP (nI 10) 1 (swP (nI 10) 0 (row, fun _ => 0))))) := rfl
  rw [e0, e1, e2, e3, e4] at e
  intro x hx
  rw [e]
  rcases (show x = 0 ∨ x = 1 ∨ x = 2 ∨ x = 3 ∨ x = 4 ∨ x = 5 by omega) with rfl | rfl | rfl | rfl | rfl | rfl
  · rw [show fpl (nI 10) 0 = 0 from by decide, show mvI (nI 0) (nI 10) = 0 from by decide]
    refine ⟨?_, ?_⟩
    · first | rfl | simp
    · simp [upd, hj 0 1 (by decide) (by decide), hj 0 2 (by decide) (by decide), hj 0 3 (by decide) (by decide), hj 0 4 (by decide) (by decide), hj 0 5 (by decide) (by decide)]
  · rw [show fpl (nI 10) 1 = 2 from by decide, show mvI (nI 1) (nI 10) = nI 1 from by decide]
    refine ⟨?_, ?_⟩
    · first | rfl | simp
    · simp [upd, hj 1 0 (by decide) (by decide), hj 1 2 (by decide) (by decide), hj 1 3 (by decide) (by decide), hj 1 4 (by decide) (by decide), hj 1 5 (by decide) (by decide)]
  · rw [show fpl (nI 10) 2 = 1 from by decide, show mvI (nI 2) (nI 10) = -1 from by decide]
    refine ⟨?_, ?_⟩
    · first | rfl | simp
    · simp [upd, hj 2 0 (by decide) (by decide), hj 2 1 (by decide) (by decide), hj 2 3 (by decide) (by decide), hj 2 4 (by decide) (by decide), hj 2 5 (by decide) (by decide)]
  · rw [show fpl (nI 10) 3 = 4 from by decide, show mvI (nI 3) (nI 10) = nI 1 from by decide]
    refine ⟨?_, ?_⟩
    · first | rfl | simp
    · simp [upd, hj 3 0 (by decide) (by decide), hj 3 1 (by decide) (by decide), hj 3 2 (by decide) (by decide), hj 3 4 (by decide) (by decide), hj 3 5 (by decide) (by decide)]
  · rw [show fpl (nI 10) 4 = 3 from by decide, show mvI (nI 4) (nI 10) = -1 from by decide]
    refine ⟨?_, ?_⟩
    · first | rfl | simp
    · simp [upd, hj 4 0 (by decide) (by decide), hj 4 1 (by decide) (by decide), hj 4 2 (by decide) (by decide), hj 4 3 (by decide) (by decide), hj 4 5 (by decide) (by decide)]
  · rw [show fpl (nI 10) 5 = 5 from by decide, show mvI (nI 5) (nI 10) = 0 from by decide]
    refine ⟨?_, ?_⟩
    · first | rfl | simp
    · simp [upd, hj 5 0 (by decide) (by decide), hj 5 1 (by decide) (by decide), hj 5 2 (by decide) (by decide), hj 5 3 (by decide) (by decide), hj 5 4 (by decide) (by decide)]
theorem sw_16 {row : Nat → Nat} (hj : inj6 row) : SWK row 16 := by
  have e0 : ∀ s : (Nat → Nat) × (Nat → Int32), swP (nI 16) 0 s = s := fun s => if_pos (by decide)
  have e1 : ∀ s : (Nat → Nat) × (Nat → Int32), swP (nI 16) 1 s = s := fun s => if_pos (by decide)
  have e2 : ∀ s : (Nat → Nat) × (Nat → Int32), swP (nI 16) 2 s = s := fun s => if_pos (by decide)
  have e3 : ∀ s : (Nat → Nat) × (Nat → Int32), swP (nI 16) 3 s = s := fun s => if_pos (by decide)
  have e4 : ∀ s : (Nat → Nat) × (Nat → Int32), swP (nI 16) 4 s = (fun x => if x = 4 + 1 then s.1 4 else if x = 4 then s.1 (4 + 1) else s.1 x, upd (upd s.2 (s.1 4) (nI 1)) (s.1 (4 + 1)) (-1)) := fun s => if_neg (by decide)
  have e : swI (nI 16) row = swP (nI 16) 4 (swP (nI 16) 3 (swP (nI 16) 2 (swP (nI 16) 1 (swP (nI 16) 0 (row, fun _ => 0))))) := rfl
  rw [e0, e1, e2, e3, e4] at e
  intro x hx
  rw [e]
  rcases (show x = 0 ∨ x = 1 ∨ x = 2 ∨ x = 3 ∨ x = 4 ∨ x = 5 by omega) with rfl | rfl | rfl | rfl | rfl | rfl
  · rw [show fpl (nI 16) 0 = 0 from by decide, show mvI (nI 0) (nI 16) = 0 from by decide]
    refine ⟨?_, ?_⟩
    · first | rfl | simp
    · simp [upd, hj 0 1 (by decide) (by decide), hj 0 2 (by decide) (by decide), hj 0 3 (by decide) (by decide), hj 0 4 (by decide) (by decide), hj 0 5 (by decide) (by decide)]
  · rw [show fpl (nI 16) 1 = 1 from by decide, show mvI (nI 1) (nI 16) = 0 from by decide]
    refine ⟨?_, ?_⟩
    · first | rfl | simp
    · simp [upd, hj 1 0 (by decide) (by decide), hj 1 2 (by decide) (by decide), hj 1 3 (by decide) (by decide), hj 1 4 (by decide) (by decide), hj 1 5 (by decide) (by decide)]
  · rw [show fpl (nI 16) 2 = 2 from by decide, show mvI (nI 2) (nI 16) = 0 from by decide]
    refine ⟨?_, ?_⟩
    · first | rfl | simp
    · simp [upd, hj 2 0 (by decide) (by decide), hj 2 1 (by decide) (by decide), hj 2 3 (by decide) (by decide), hj 2 4 (by decide) (by decide), hj 2 5 (by decide) (by decide)]
  · rw [show fpl (nI 16) 3 = 3 from by decide, show mvI (nI 3) (nI 16) = 0 from by decide]
    refine ⟨?_, ?_⟩
    · first | rfl | simp
    · simp [upd, hj 3 0 (by decide) (by decide), hj 3 1 (by decide) (by decide), hj 3 2 (by decide) (by decide), hj 3 4 (by decide) (by decide), hj 3 5 (by decide) (by decide)]
  · rw [show fpl (nI 16) 4 = 5 from by decide, show mvI (nI 4) (nI 16) = nI 1 from by decide]
    refine ⟨?_, ?_⟩
    · first | rfl | simp
    · simp [upd, hj 4 0 (by decide) (by decide), hj 4 1 (by decide) (by decide), hj 4 2 (by decide) (by decide), hj 4 3 (by decide) (by decide), hj 4 5 (by decide) (by decide)]
  · rw [show fpl (nI 16) 5 = 4 from by decide, show mvI (nI 5) (nI 16) = -1 from by decide]
    refine ⟨?_, ?_⟩
    · first | rfl | simp
    · simp [upd, hj 5 0 (by decide) (by decide), hj 5 1 (by decide) (by decide), hj 5 2 (by decide) (by decide), hj 5 3 (by decide) (by decide), hj 5 4 (by decide) (by decide)]
theorem sw_17 {row : Nat → Nat} (hj : inj6 row) : SWK row 17 := by
  have e0 : ∀ s : (Nat → Nat) × (Nat → Int32), swP (nI 17) 0 s = (fun x => if x = 0 + 1 then s.1 0 else if x = 0 then s.1 (0 + 1) else s.1 x, upd (upd s.2 (s.1 0) (nI 1)) (s.1 (0 + 1)) (-1)) := fun s => if_neg (by decide)
  have e1 : ∀ s : (Nat → Nat) × (Nat → Int32), swP (nI 17) 1 s = s := fun s => if_pos (by decide)
  have e2 : ∀ s : (Nat → Nat) × (Nat → Int32), swP (nI 17) 2 s = s := fun s => if_pos (by decide)
  have e3 : ∀ s : (Nat → Nat) × (Nat → Int32), swP (nI 17) 3 s = s := fun s => if_pos (by decide)
  have e4 : ∀ s : (Nat → Nat) × (Nat → Int32), swP (nI 17) 4 s = (fun x => if x = 4 + 1 then s.1 4 else if x = 4 then s.1 (4 + 1) else s.1 x, upd (upd s.2 (s.1 4) (nI 1)) (s.1 (4 + 1)) (-1)) := fun s => if_neg (by decide)
  have e : swI (nI 17) row = swP (nI 17) 4 (swP (nI 17) 3 (swP (nI 17) 2 (swP (nI 17) 1 (swP (nI 17) 0 (row, fun _ => 0))))) := rfl
  rw [e0, e1, e2, e3, e4] at e
  intro x hx
  rw [e]
  rcases (show x = 0 ∨ x = 1 ∨ x = 2 ∨ x = 3 ∨ x = 4 ∨ x = 5 by omega) with rfl | rfl | rfl | rfl | rfl | rfl
  · rw [show fpl (nI 17) 0 = 1 from by decide, show mvI (nI 0) (nI 17) = nI 1 from by decide]
    refine ⟨?_, ?_⟩
    · first | rfl | simp
    · simp [upd, hj 0 1 (by decide) (by decide), hj 0 2 (by decide) (by decide), hj 0 3 (by decide) (by decide), hj 0 4 (by decide) (by decide), hj 0 5 (by decide) (by decide)]
  · rw [show fpl (nI 17) 1 = 0 from by decide, show mvI (nI 1) (nI 17) = -1 from by decide]
    refine ⟨?_, ?_⟩
    · first | rfl | simp
    · simp [upd, hj 1 0 (by decide) (by decide), hj 1 2 (by decide) (by decide), hj 1 3 (by decide) (by decide), hj 1 4 (by decide) (by decide), hj 1 5 (by decide) (by decide)]
  · rw [show fpl (nI 17) 2 = 2 from by decide, show mvI (nI 2) (nI 17) = 0 from by decide]
    refine ⟨?_, ?_⟩
    · first | rfl | simp
    · simp [upd, hj 2 0 (by decide) (by decide), hj 2 1 (by decide) (by decide), hj 2 3 (by decide) (by decide), hj 2 4 (by decide) (by decide), hj 2 5 (by decide) (by decide)]
  · rw [show fpl (nI 17) 3 = 3 from by decide, show mvI (nI 3) (nI 17) = 0 from by decide]
    refine ⟨?_, ?_⟩
    · first | rfl | simp
    · simp [upd, hj 3 0 (by decide) (by decide), hj 3 1 (by decide) (by decide), hj 3 2 (by decide) (by decide), hj 3 4 (by decide) (by decide), hj 3 5 (by decide) (by decide)]
  · rw [show fpl (nI 17) 4 = 5 from by decide, show mvI (nI 4) (nI 17) = nI 1 from by decide]
    refine ⟨?_, ?_⟩
    · first | rfl | simp
    · simp [upd, hj 4 0 (by decide) (by decide), hj 4 1 (by decide) (by decide), hj 4 2 (by decide) (by decide), hj 4 3 (by decide) (by decide), hj 4 5 (by decide) (by decide)]
  · rw [show fpl (nI 17) 5 = 4 from by decide, show mvI (nI 5) (nI 17) = -1 from by decide]
    refine ⟨?_, ?_⟩
    · first | rfl | simp
    · simp [upd, hj 5 0 (by decide) (by decide), hj 5 1 (by decide) (by decide), hj 5 2 (by decide) (by decide), hj 5 3 (by decide) (by decide), hj 5 4 (by decide) (by decide)]
theorem sw_18 {row : Nat → Nat} (hj : inj6 row) : SWK row 18 := by
  have e0 : ∀ s : (Nat → Nat) × (Nat → Int32), swP (nI 18) 0 s = s := fun s => if_pos (by decide)
  have e1 : ∀ s : (Nat → Nat) × (Nat → Int32), swP (nI 18) 1 s = (fun x => if x = 1 + 1 then s.1 1 else if x = 1 then s.1 (1 + 1) else s.1 x, upd (upd s.2 (s.1 1) (nI 1)) (s.1 (1 + 1)) (-1)) := fun s => if_neg (by decide)
  have e2 : ∀ s : (Nat → Nat) × (Nat → Int32), swP (nI 18) 2 s = s := fun s => if_pos (by decide)
  have e3 : ∀ s : (Nat → Nat) × (Nat → Int32), swP (nI 18) 3 s = s := fun s => if_pos (by decide)
  have e4 : ∀ s : (Nat → Nat) × (Nat → Int32), swP (nI 18) 4 s = (fun x => if x = 4 + 1 then s.1 4 else if x = 4 then s.1 (4 + 1) else s.1 x, upd (upd s.2 (s.1 4) (nI 1)) (s.1 (4 + 1)) (-1)) := fun s => if_neg (by decide)
  have e : swI (nI 18) row = swP (nI 18) 4 (swP (nI 18) 3 (swP (nI 18) 2 (swP (nI 18) 1 (swP (nI 18) 0 (row, fun _ => 0))))) := rfl
  rw [e0, e1, e2, e3, e4] at e
  intro x hx
  rw [e]
  rcases (show x = 0 ∨ x = 1 ∨ x = 2 ∨ x = 3 ∨ x = 4 ∨ x = 5 by omega) with rfl | rfl | rfl | rfl | rfl | rfl
  · rw [show fpl (nI 18) 0 = 0 from by decide, show mvI (nI 0) (nI 18) = 0 from by decide]
    refine ⟨?_, ?_⟩
    · first | rfl | simp
    · simp [upd, hj 0 1 (by decide) (by decide), hj 0 2 (by decide) (by decide), hj 0 3 (by decide) (by decide), hj 0 4 (by decide) (by decide), hj 0 5 (by decide) (by decide)]
  · rw [show fpl (nI 18) 1 = 2 from by decide, show mvI (nI 1) (nI 18) = nI 1 from by decide]
    refine ⟨?_, ?_⟩
    · first | rfl | simp
    · simp [upd, hj 1 0 (by decide) (by decide), hj 1 2 (by decide) (by decide), hj 1 3 (by decide) (by decide), hj 1 4 (by decide) (by decide), hj 1 5 (by decide) (by decide)]
  · rw [show fpl (nI 18) 2 = 1 from by decide, show mvI (nI 2) (nI 18) = -1 from by decide]
    refine ⟨?_, ?_⟩
    · first | rfl | simp
    · simp [upd, hj 2 0 (by decide) (by decide), hj 2 1 (by decide) (by decide), hj 2 3 (by decide) (by decide), hj 2 4 (by decide) (by decide), hj 2 5 (by decide) (by decide)]
  · rw [show fpl (nI 18) 3 = 3 from by decide, show mvI (nI 3) (nI 18) = 0 from by decide]
    refine ⟨?_, ?_⟩
    · first | rfl | simp
    · simp [upd, hj 3 0 (by decide) (by decide), hj 3 1 (by decide) (by decide), hj 3 2 (by decide) (by decide), hj 3 4 (by decide) (by decide), hj 3 5 (by decide) (by decide)]
  · rw [show fpl (nI 18) 4 = 5 from by decide, show mvI (nI 4) (nI 18) = nI 1 from by decide]
    refine ⟨?_, ?_⟩
    · first | rfl | simp
    · simp [upd, hj 4 0 (by decide) (by decide), hj 4 1 (by decide) (by decide), hj 4 2 (by decide) (by decide), hj 4 3 (by decide) (by decide), hj 4 5 (by decide) (by decide)]
  · rw [show fpl (nI 18) 5 = 4 from by decide, show mvI (nI 5) (nI 18) = -1 from by decide]
    refine ⟨?_, ?_⟩
    · first | rfl | simp
    · simp [upd, hj 5 0 (by decide) (by decide), hj 5 1 (by decide) (by decide), hj 5 2 (by decide) (by decide), hj 5 3 (by decide) (by decide), hj 5 4 (by decide) (by decide)]
theorem sw_20 {row : Nat → Nat} (hj : inj6 row) : SWK row 20 := by
  have e0 : ∀ s : (Nat → Nat) × (Nat → Int32), swP (nI 20) 0 s = s := fun s => if_pos (by decide)
  have e1 : ∀ s : (Nat → Nat) × (Nat → Int32), swP (nI 20) 1 s = s := fun s => if_pos (by decide)
  have e2 : ∀ s : (Nat → Nat) × (Nat → Int32), swP (nI 20) 2 s = (fun x => if x = 2 + 1 then s.1 2 else if x = 2 then s.1 (2 + 1) else s.1 x, upd (upd s.2 (s.1 2) (nI 1)) (s.1 (2 + 1)) (-1)) := fun s => if_neg (by decide)
  have e3 : ∀ s : (Nat → Nat) × (Nat → Int32), swP (nI 20) 3 s = s := fun s => if_pos (by decide)
  have e4 : ∀ s : (Nat → Nat) × (Nat → Int32), swP (nI 20) 4 s = (fun x => if x = 4 + 1 then s.1 4 else if x = 4 then s.1 (4 + 1) else s.1 x, upd (upd s.2 (s.1 4) (nI 1)) (s.1 (4 + 1)) (-1)) := fun s => if_neg (by decide)
  have e : swI (nI 20) row = swP (nI 20) 4 (swP (nI 20) 3 (swP (nI 20) 2 (swP (nI 20) 1 (swP (nI 20) 0 (row, fun _ => 0))))) := rfl
  rw [e0, e1, e2, e3, e4] at e
  intro x hx
  rw [e]
  rcases (show x = 0 ∨ x = 1 ∨ x = 2 ∨ x = 3 ∨ x = 4 ∨ x = 5 by omega) with rfl | rfl | rfl | rfl | rfl | rfl
  · rw [show fpl (nI 20) 0 = 0 from by decide, show mvI (nI 0) (nI 20) = 0 from by decide]
    refine ⟨?_, ?_⟩
    · first | rfl | simp
    · simp [upd, hj 0 1 (by decide) (by decide), hj 0 2 (by decide) (by decide), hj 0 3 (by decide) (by decide), hj 0 4 (by decide) (by decide), hj 0 5 (by decide) (by decide)]
  · rw [show fpl (nI 20) 1 = 1 from by decide, show mvI (nI 1) (nI 20) = 0 from by decide]
    refine ⟨?_, ?_⟩
    · first | rfl | simp
    · simp [upd, hj 1 0 (by decide) (by decide), hj 1 2 (by decide) (by decide), hj 1 3 (by decide) (by decide), hj 1 4 (by decide) (by decide), hj 1 5 (by decide) (by decide)]
  · rw [show fpl (nI 20) 2 = 3 from by decide, show mvI (nI 2) (nI 20) = nI 1 from by decide]
    refine ⟨?_, ?_⟩
    · first | rfl | simp
    · simp [upd, hj 2 0 (by decide) (by decide), hj 2 1 (by decide) (by decide), hj 2 3 (by decide) (by decide), hj 2 4 (by decide) (by decide), hj 2 5 (by decide) (by decide)]
  · rw [show fpl (nI 20) 3 = 2 from by decide, show mvI (nI 3) (nI 20) = -1 from by decide]
    refine ⟨?_, ?_⟩
    · first | rfl | simp
    · simp [upd, hj 3 0 (by decide) (by decide), hj 3 1 (by decide) (by decide), hj 3 2 (by decide) (by decide), hj 3 4 (by decide) (by decide), hj 3 5 (by decide) (by decide)]
  · rw [show fpl (nI 20) 4 = 5 from by decide, show mvI (nI 4) (nI 20) = nI 1 from by decide]
    refine ⟨?_, ?_⟩
    · first | rfl | simp
    · simp [upd, hj 4 0 (by decide) (by decide), hj 4 1 (by decide) (by decide), hj 4 2 (by decide) (by decide), hj 4 3 (by decide) (by decide), hj 4 5 (by decide) (by decide)]
  · rw [show fpl (nI 20) 5 = 4 from by decide, show mvI (nI 5) (nI 20) = -1 from by decide]
    refine ⟨?_, ?_⟩
    · first | rfl | simp
    · simp [upd, hj 5 0 (by decide) (by decide), hj 5 1 (by decide) (by decide), hj 5 2 (by decide) (by decide), hj 5 3 (by decide) (by decide), hj 5 4 (by decide) (by decide)]
theorem sw_21 {row : Nat → Nat} (hj : inj6 row) : SWK row 21 := by
  have e0 : ∀ s : (Nat → Nat) × (Nat → Int32), swP (nI 21) 0 s = (fun x => if x = 0 + 1 then s.1 0 else if x = 0 then s.1 (0 + 1) else s.1 x, upd (upd s.2 (s.1 0) (nI 1)) (s.1 (0 + 1)) (-1)) := fun s => if_neg (by decide)
  have e1 : ∀ s : (Nat → Nat) × (Nat → Int32), swP (nI 21) 1 s = s := fun s => if_pos (by decide)
  have e2 : ∀ s : (Nat → Nat) × (Nat → Int32), swP (nI 21) 2 s = (fun x => if x = 2 + 1 then s.1 2 else if x = 2 then s.1 (2 + 1) else s.1 x, upd (upd s.2 (s.1 2) (nI 1)) (s.1 (2 + 1)) (-1)) := fun s => if_neg (by decide)
  have e3 : ∀ s : (Nat → Nat) × (Nat → Int32), swP (nI 21) 3 s = s := fun s => if_pos (by decide)
  have e4 : ∀ s : (Nat → Nat) × (Nat → Int32), swP (nI 21) 4 s = (fun x => if x = 4 + 1 then s.1 4 else if x = 4 then s.1 (4 + 1) else s.1 x, upd (upd s.2 (s.1 4) (nI 1)) (s.1 (4 + 1)) (-1)) := fun s => if_neg (by decide)
  have e : swI (nI 21) row = swP (nI 21) 4 (swP (nI 21) 3 (swP (nI 21) 2 (swP (nI 21) 1 (swP (nI 21) 0 (row, fun _ => 0))))) := rfl
  rw [e0, e1, e2, e3, e4] at e
  intro x hx
  rw [e]
  rcases (show x = 0 ∨ x = 1 ∨ x = 2 ∨ x = 3 ∨ x = 4 ∨ x = 5 by omega) with rfl | rfl | rfl | rfl | rfl | rfl
  · rw [show fpl (nI 21) 0 = 1 from by decide, show mvI (nI 0) (nI 21) = nI 1 from by decide]
    refine ⟨?_, ?_⟩
    · first | rfl | simp
    · simp [upd, hj 0 1 (by decide) (by decide), hj 0 2 (by decide) (by decide), hj 0 3 (by decide) (by decide), hj 0 4 (by decide) (by decide), hj 0 5 (by decide) (by decide)]
  · rw [show fpl (nI 21) 1 = 0 from by decide, show mvI (nI 1) (nI 21) = -1 from by decide]
    refine ⟨?_, ?_⟩
    · first | rfl | simp
    · simp [upd, hj 1 0 (by decide) (by decide), hj 1 2 (by decide) (by decide), hj 1 3 (by decide) (by decide), hj 1 4 (by decide) (by decide), hj 1 5 (by decide) (by decide)]
  · rw [show fpl (nI 21) 2 = 3 from by decide, show mvI (nI 2) (nI 21) = nI 1 from by decide]
    refine ⟨?_, ?_⟩
    · first | rfl | simp
    · simp [upd, hj 2 0 (by decide) (by decide), hj 2 1 (by decide) (by decide), hj 2 3 (by decide) (by decide), hj 2 4 (by decide) (by decide), hj 2 5 (by decide) (by decide)]
  · rw [show fpl (nI 21) 3 = 2 from by decide, show mvI (nI 3) (nI 21) = -1 from by decide]
    refine ⟨?_, ?_⟩
    · first | rfl | simp
    · simp [upd, hj 3 0 (by decide) (by decide), hj 3 1 (by decide) (by decide), hj 3 2 (by decide) (by decide), hj 3 4 (by decide) (by decide), hj 3 5 (by decide) (by decide)]
  · rw [show fpl (nI 21) 4 = 5 from by decide, show mvI (nI 4) (nI 21) = nI 1 from by decide]
    refine ⟨?_, ?_⟩
    · first | rfl | simp
    · simp [upd, hj 4 0 (by decide) (by decide), hj 4 1 (by decide) (by decide), hj 4 2 (by decide) (by decide), hj 4 3 (by decide) (by decide), hj 4 5 (by decide) (by decide)]
  · rw [show fpl (nI 21) 5 = 4 from by decide, show mvI (nI 5) (nI 21) = -1 from by decide]
    refine ⟨?_, ?_⟩
    · first | rfl | simp
    · simp [upd, hj 5 0 (by decide) (by decide), hj 5 1 (by decide) (by decide), hj 5 2 (by decide) (by decide), hj 5 3 (by decide) (by decide), hj 5 4 (by decide) (by decide)]
theorem vd_dec : ∀ d, d < 32 → d &&& (d >>> 1) = 0 → d = 0 ∨ d = 1 ∨ d = 2 ∨ d = 4 ∨ d = 5 ∨ d = 8 ∨ d = 9 ∨ d = 10 ∨ d = 16 ∨ d = 17 ∨ d = 18 ∨ d = 20 ∨ d = 21 := by decide
theorem sw_all {row : Nat → Nat} {d : Nat} (hj : inj6 row) (hd : d < 32) (hv : d &&& (d >>> 1) = 0) : SWK row d := by
  rcases vd_dec d hd hv with rfl | rfl | rfl | rfl | rfl | rfl | rfl | rfl | rfl | rfl | rfl | rfl | rfl
  · exact sw_0 hj
  · exact sw_1 hj
  · exact sw_2 hj
  · exact sw_4 hj
  · exact sw_5 hj
  · exact sw_8 hj
  · exact sw_9 hj
  · exact sw_10 hj
  · exact sw_16 hj
  · exact sw_17 hj
  · exact sw_18 hj
  · exact sw_20 hj
  · exact sw_21 hj
/-- bells to places, places to bells -/
def REL (p row : Nat → Nat) : Prop := (∀ b, b < 6 → p b < 6 ∧ row (p b) = b) ∧ ∀ x, x < 6 → row x < 6 ∧ p (row x) = x
theorem REL.inj {p row : Nat → Nat} (h : REL p row) : inj6 row := fun x y hx hy => ⟨fun e => by rw [← (h.2 x hx).2, e, (h.2 y hy).2], fun e => by rw [e]⟩
theorem rel_step {p row : Nat → Nat} {c : Int32} (hc : vchg c) (h : REL p row) : REL (tplc p c) (swI c row).1 ∧ ∀ b, b < 6 → (swI c row).2 b = mvI (nI (p b)) c := by
  obtain ⟨d, hd, rfl, hv⟩ := hc
  have hs := sw_all h.inj hd hv
  have hf := fpl_dec d hd hv
  refine ⟨⟨fun b hb => ?_, fun x hx => ?_⟩, fun b hb => ?_⟩
  · obtain ⟨g1, g2⟩ := h.1 b hb
    obtain ⟨f1, f2⟩ := hf (p b) g1
    refine ⟨f1, ?_⟩
    show (swI (nI d) row).1 (fpl (nI d) (p b)) = b
    rw [(hs _ f1).1, f2, g2]
  · obtain ⟨f1, f2⟩ := hf x hx
    rw [(hs x hx).1]
    obtain ⟨g1, g2⟩ := h.2 _ f1
    refine ⟨g1, ?_⟩
    show fpl (nI d) (p (row (fpl (nI d) x))) = x
    rw [g2, f2]
  · obtain ⟨g1, g2⟩ := h.1 b hb
    have h1 := (hs (p b) g1).2
    rw [g2] at h1
    exact h1
/-- a touch behind j changes -/
def tq (c : Nat → Int32) (ma : Nat → Int32) (j : Nat) : TT := itr (fun i s => tstep (c i) s) j (tbegin ma)
theorem rel_0 : REL (fun b => b) (fun b => b) := ⟨fun b hb => ⟨hb, rfl⟩, fun b hb => ⟨hb, rfl⟩⟩
theorem rel_all {c : Nat → Int32} (ma : Nat → Int32) (hc : ∀ i, vchg (c i)) : ∀ j, REL (tq c ma j).1 (wkI c j).1 ∧ ∀ b, b < 6 → (tq c ma j).2.1 b = (wkI c j).2 b := by
  intro j
  induction j with
  | zero => exact ⟨rel_0, fun b _ => rfl⟩
  | succ j ih =>
    obtain ⟨h1, h2⟩ := rel_step (hc j) ih.1
    exact ⟨h1, fun b hb => (h2 b hb).symm⟩
theorem cod_inj {r q : Nat → Nat} (hr : vplc r) (hq : vplc q) : codN r = codN q ↔ ∀ x, x < 6 → r x = q x := by
  have a0 := hr 0 (by omega); have a1 := hr 1 (by omega); have a2 := hr 2 (by omega); have a3 := hr 3 (by omega); have a4 := hr 4 (by omega); have a5 := hr 5 (by omega)
  have b0 := hq 0 (by omega); have b1 := hq 1 (by omega); have b2 := hq 2 (by omega); have b3 := hq 3 (by omega); have b4 := hq 4 (by omega); have b5 := hq 5 (by omega)
  have e1 : codN r = 6 * (6 * (6 * (6 * (6 * (6 * 0 + r 0) + r 1) + r 2) + r 3) + r 4) + r 5 := rfl
  have e2 : codN q = 6 * (6 * (6 * (6 * (6 * (6 * 0 + q 0) + q 1) + q 2) + q 3) + q 4) + q 5 := rfl
  rw [e1, e2]
  constructor
  · intro h x hx
    have h5 : r 5 = q 5 := by omega
    have h4 : r 4 = q 4 := by omega
    have h3 : r 3 = q 3 := by omega
    have h2 : r 2 = q 2 := by omega
    have h1 : r 1 = q 1 := by omega
    have h0 : r 0 = q 0 := by omega
    rcases (show x = 0 ∨ x = 1 ∨ x = 2 ∨ x = 3 ∨ x = 4 ∨ x = 5 by omega) with rfl | rfl | rfl | rfl | rfl | rfl <;> assumption
  · intro h
    rw [h 0 (by omega), h 1 (by omega), h 2 (by omega), h 3 (by omega), h 4 (by omega), h 5 (by omega)]
theorem key_inj {r q : Nat → Nat} (hr : vplc r) (hq : vplc q) : keyN r = keyN q ↔ ∀ x, x < 5 → r x = q x := by
  have a0 := hr 0 (by omega); have a1 := hr 1 (by omega); have a2 := hr 2 (by omega); have a3 := hr 3 (by omega); have a4 := hr 4 (by omega)
  have b0 := hq 0 (by omega); have b1 := hq 1 (by omega); have b2 := hq 2 (by omega); have b3 := hq 3 (by omega); have b4 := hq 4 (by omega)
  have e1 : keyN r = ((((0 * 6 + r 0) * 6 + r 1) * 6 + r 2) * 6 + r 3) * 6 + r 4 := rfl
  have e2 : keyN q = ((((0 * 6 + q 0) * 6 + q 1) * 6 + q 2) * 6 + q 3) * 6 + q 4 := rfl
  rw [e1, e2]
  constructor
  · intro h x hx
    have h4 : r 4 = q 4 := by omega
    have h3 : r 3 = q 3 := by omega
    have h2 : r 2 = q 2 := by omega
    have h1 : r 1 = q 1 := by omega
    have h0 : r 0 = q 0 := by omega
    rcases (show x = 0 ∨ x = 1 ∨ x = 2 ∨ x = 3 ∨ x = 4 by omega) with rfl | rfl | rfl | rfl | rfl <;> assumption
  · intro h
    rw [h 0 (by omega), h 1 (by omega), h 2 (by omega), h 3 (by omega), h 4 (by omega)]
theorem REL.p {p row : Nat → Nat} (h : REL p row) : vplc p := fun b hb => (h.1 b hb).1
theorem REL.r {p row : Nat → Nat} (h : REL p row) : vplc row := fun b hb => (h.2 b hb).1
theorem rel_eq {p row q col : Nat → Nat} (h : REL p row) (g : REL q col) : (∀ x, x < 6 → row x = col x) ↔ ∀ b, b < 6 → p b = q b := by
  constructor
  · intro e b hb
    obtain ⟨h1, h2⟩ := h.1 b hb
    have h3 := (g.2 (p b) h1).2
    rw [← e _ h1, h2] at h3
    exact h3.symm
  · intro e x hx
    obtain ⟨h1, h2⟩ := h.2 x hx
    have h3 := (g.1 (row x) h1).2
    rw [← e _ h1, h2] at h3
    exact h3.symm
theorem rel_six {p row q col : Nat → Nat} (h : REL p row) (g : REL q col) (e : ∀ x, x < 5 → p x = q x) : ∀ x, x < 6 → p x = q x := by
  intro x hx
  by_cases h5 : x < 5
  · exact e x h5
  · obtain rfl : x = 5 := by omega
    obtain ⟨h1, h2⟩ := g.1 5 (by omega)
    obtain ⟨h3, h4⟩ := h.2 (q 5) h1
    by_cases hb : row (q 5) < 5
    · have h6 := e _ hb
      rw [h4] at h6
      have h7 := (g.1 (row (q 5)) h3).2
      rw [← h6, h2] at h7
      omega
    · have h8 : row (q 5) = 5 := by omega
      rw [h8] at h4
      exact h4
theorem cod_key {p row q col : Nat → Nat} (h : REL p row) (g : REL q col) : codN row = codN col ↔ keyN p = keyN q := by
  rw [cod_inj h.r g.r, key_inj h.p g.p, rel_eq h g]
  exact ⟨fun e x hx => e x (by omega), rel_six h g⟩
theorem cod_rnd {row : Nat → Nat} (h : vplc row) : codN row = 1865 ↔ ∀ x, x < 6 → row x = x := by
  have e : (1865 : Nat) = codN (fun b => b) := by decide +kernel
  rw [e, cod_inj h (fun b hb => hb)]
theorem cnt_le {P : Nat → Prop} [DecidablePred P] : ∀ n, cntN P n ≤ n := by
  intro n
  unfold cntN
  induction n with
  | zero => exact Nat.le_refl 0
  | succ n ih => simp only [itr]; split <;> omega
theorem cnt_S {P : Nat → Prop} [DecidablePred P] {n : Nat} : cntN P (n + 1) = if P n then cntN P n + 1 else cntN P n := rfl
theorem cnt_all {P : Nat → Prop} [DecidablePred P] : ∀ n, cntN P n = n ↔ ∀ x, x < n → P x := by
  intro n
  induction n with
  | zero => exact ⟨fun _ x hx => by omega, fun _ => rfl⟩
  | succ n ih =>
    rw [cnt_S]
    have h1 := cnt_le (P := P) n
    constructor
    · intro h x hx
      split at h
      · next hp =>
        by_cases e : x = n
        · subst e; exact hp
        · exact ih.mp (by omega) x (by omega)
      · omega
    · intro h
      rw [if_pos (h n (by omega)), ih.mpr (fun x hx => h x (by omega))]
theorem home_iff {p row : Nat → Nat} (h : REL p row) : homeI p = nI 6 ↔ codN row = 1865 := by
  have e : homeI p = nI (cntN (fun b => p b = b) 6) := cnt_nat
  have h1 := cnt_le (P := fun b => p b = b) 6
  rw [e, gn_eq (by omega), cnt_all, cod_rnd h.r, ← rel_eq h rel_0]
