/-! the model: what a walk leaves -/
theorem gn_rg {rc : Nat} (hrc : rc ≤ 20) {r : Int32} (h : nI rc ≤ r) : nI rc - nI 1 < r := by
  have h1 : ∀ rc, rc ≤ 20 → (nI rc - nI 1).toInt = (rc : Int) - 1 ∧ (nI rc).toInt = (rc : Int) := by decide
  have h2 := Int32.le_iff_toInt_le.mp h
  obtain ⟨a, b⟩ := h1 rc hrc
  exact Int32.lt_iff_toInt_lt.mpr (by omega)
theorem gn_up {z : Nat} (hz : z < 1000) {r : Int32} (h : nI (z + 1) ≤ r) : nI z < r := by
  have h1 : (nI z).toInt = (z : Int) := nI_toInt (by omega)
  have h3 : (nI (z + 1)).toInt = ((z + 1 : Nat) : Int) := nI_toInt (by omega)
  have h2 := Int32.le_iff_toInt_le.mp h
  exact Int32.lt_iff_toInt_lt.mpr (by omega)
theorem gn_dn {z : Nat} (hz : z < 1000) {r : Int32} (h : nI z < r) : nI (z + 1) ≤ r := by
  have h1 : (nI z).toInt = (z : Int) := nI_toInt (by omega)
  have h3 : (nI (z + 1)).toInt = ((z + 1 : Nat) : Int) := nI_toInt (by omega)
  have h2 := Int32.lt_iff_toInt_lt.mp h
  exact Int32.le_iff_toInt_le.mpr (by omega)
theorem gn_ilt_n {x y : Int32} (h : x ≤ y) : ¬ y < x := gn_ile.mpr h
def chM (cs : Nat → Int32) (mn : Nat → Nat) (m : Nat) : Nat → Int32 := fun q => cs (12 * m + q % mn m)
def goI (go : Nat → Int32) (ch : Nat → Int32) : Nat → Nat → Int32
  | 0 => go
  | i + 1 => (wkI ch (i + 1)).2
def gdI (dg : Nat → Int32) (ch : Nat → Int32) (j : Nat) : Int32 := if j = 0 then dg 0 else ddgI ch (j - 1)
def WD (h : gw_H) (ch : Nat → Int32) (N : Nat) : Prop := ∃ (co dg rw_ go we : Nat → Int32), h 46 = aI 201 co ∧ h 47 = aI 201 dg ∧ h 48 = aI 6 rw_ ∧ h 49 = aI 6 go ∧ h 50 = aI 6 we ∧ (∀ k, k ≤ N → co k = codI ch k) ∧ ∀ k, k < N → dg (k + 1) = ddgI ch k
def PWk (r : Option Value) (E : gw_H) (n : Nat) (ch : Nat → Int32) (N : Nat) : Option Value → gw_H → Nat → Prop := fun rv h' n' => r = rv ∧ n = n' ∧ (∀ j, j < 46 ∨ 50 < j → h' j = E j) ∧ WD h' ch N
theorem sw_pt {p : Nat → Nat} {j k : Nat} : upd (upd (fun b => nI (p b)) j (nI (p (j + 1)))) (j + 1) (nI (p j)) k = nI (if k = j + 1 then p j else if k = j then p (j + 1) else p k) := by
  unfold upd
  split
  · rfl
  · split <;> rfl
theorem upd_pt {f : Nat → Int32} {i k : Nat} {v w : Int32} : upd (upd f i v) i w k = upd f i w k := by
  unfold upd
  split <;> rfl
theorem co_0 {co : Nat → Int32} {ch : Nat → Int32} {k : Nat} : upd co 0 (nI 1865) k = ltA (0 + 1) (codI ch) co k := by
  unfold upd ltA
  by_cases h : k = 0
  · subst h
    rw [if_pos rfl, if_pos (by omega)]
    exact congrArg nI (show 1865 = codN (fun b => b) by decide +kernel)
  · rw [if_neg h, if_neg (by omega)]
theorem dg_0 {dg : Nat → Int32} {ch : Nat → Int32} {k : Nat} : dg k = ltA (0 + 1) (gdI dg ch) dg k := by
  unfold ltA
  by_cases h : k = 0
  · subst h; rfl
  · rw [if_neg (by omega)]
abbrev nwP (co : Nat → Int32) (k : Nat) : Prop := ∀ i, i < k → ¬ co i = co k
def unP (co : Nat → Int32) (N : Nat) (i : Nat) (s : Int32) : Int32 := if nwP co (i + 1) ∨ (i + 1 = N ∧ co (i + 1) = nI 1865) then s + nI 0 else s + nI 1
def untI (co : Nat → Int32) (N : Nat) : Int32 := itr (unP co N) N (nI 0)
def dofI (dg : Nat → Int32) (b N : Nat) : Int32 := itr (fun k s => s + ((dg (k + 1) >>> (nI b &&& 31)) &&& nI 1)) N (nI 0)
