/-! the model: what a walk leaves -/
theorem gn_rg {rc : Nat} (hrc : rc ≤ 20) {r : Int32} (h : nI rc ≤ r) : nI rc - nI 1 < r := by
  have h1 : ∀ rc, rc ≤ 20 → (nI rc - nI 1).toInt = (rc : Int) - 1 ∧ (nI rc).toInt = (rc : Int) := by decide
  have h2 := Int32.le_iff_toInt_le.mp h
  obtain ⟨a, b⟩ := h1 rc hrc
  exact Int32.lt_iff_toInt_lt.mpr (by omega)
theorem gn_up {z : Nat} (hz : z < 1000) {r : Int32} (h : nI (z + 1) ≤ r) : nI z < r := by
  have h1 : (nI z).toInt = (z : Int) := nI_toInt (by omega)
  have h3 : (nI (z + 1)).toInt = ((z + 1 : Nat) : Int) := nI_toInt (by omega)
  have h2 := Int32.le_iff_toInt_le.mp h
  exact Int32.lt_iff_toInt_lt.mpr (by omega)
theorem gn_dn {z : Nat} (hz : z < 1000) {r : Int32} (h : nI z < r) : nI (z + 1) ≤ r := by
  have h1 : (nI z).toInt = (z : Int) := nI_toInt (by omega)
  have h3 : (nI (z + 1)).toInt = ((z + 1 : Nat) : Int) := nI_toInt (by omega)
  have h2 := Int32.lt_iff_toInt_lt.mp h
  exact Int32.le_iff_toInt_le.mpr (by omega)
theorem gn_ilt_n {x y : Int32} (h : x ≤ y) : ¬ y < x := gn_ile.mpr h
def chM (cs : Nat → Int32) (mn : Nat → Nat) (m : Nat) : Nat → Int32 := fun q => cs (12 * m + q % mn m)
def goI (go : Nat → Int32) (ch : Nat → Int32) : Nat → Nat → Int32
  | 0 => go
  | i + 1 => (wkI ch (i + 1)).2
def gdI (dg : Nat → Int32) (ch : Nat → Int32) (j : Nat) : Int32 := if j = 0 then dg 0 else ddgI ch (j - 1)
def WD (h : gw_H) (ch : Nat → Int32) (N : Nat) : Prop := ∃ (co dg rw_ go we : Nat → Int32), h 46 = aI 201 co ∧ h 47 = aI 201 dg ∧ h 48 = aI 6 rw_ ∧ h 49 = aI 6 go ∧ h 50 = aI 6 we ∧ (∀ k, k ≤ N → co k = codI ch k) ∧ ∀ k, k < N → dg (k + 1) = ddgI ch k
def PWk (r : Option Value) (E : gw_H) (n : Nat) (ch : Nat → Int32) (N : Nat) : Option Value → gw_H → Nat → Prop := fun rv h' n' => r = rv ∧ n = n' ∧ (∀ j, j < 46 ∨ 50 < j → h' j = E j) ∧ WD h' ch N
theorem sw_pt {p : Nat → Nat} {j k : Nat} : upd (upd (fun b => nI (p b)) j (nI (p (j + 1)))) (j + 1) (nI (p j)) k = nI (if k = j + 1 then p j else if k = j then p (j + 1) else p k) := by
  unfold upd
  split
  · rfl
  · split <;> rfl
theorem upd_pt {f : Nat → Int32} {i k : Nat} {v w : Int32} : upd (upd f i v) i w k = upd f i w k := by
  unfold upd
  split <;> rfl
theorem co_0 {co : Nat → Int32} {ch : Nat → Int32} {k : Nat} : upd co 0 (nI 1865) k = ltA (0 + 1) (codI ch) co k := by
  unfold upd ltA
  by_cases h : k = 0
  · subst h
    rw [if_pos rfl, if_pos (by omega)]
    exact congrArg nI (show 1865 = codN (fun b => b) by decide +kernel)
  · rw [if_neg h, if_neg (by omega)]
theorem dg_0 {dg : Nat → Int32} {ch : Nat → Int32} {k : Nat} : dg k = ltA (0 + 1) (gdI dg ch) dg k := by
  unfold ltA
  by_cases h : k = 0
  · subst h; rfl
  · rw [if_neg (by omega)]
abbrev nwP (co : Nat → Int32) (k : Nat) : Prop := ∀ i, i < k → ¬ co i = co k
theorem WD_hs {h : gw_H} {ch : Nat → Int32} {N k : Nat} {e : gw_E} (hk : k < 46 ∨ 50 < k) (hw : WD h ch N) : WD (hs h k e) ch N := by
  obtain ⟨co, dg, rw_, go, we, q1, q2, q3, q4, q5, q6, q7⟩ := hw
  exact ⟨co, dg, rw_, go, we, (hs_ne (by omega)).trans q1, (hs_ne (by omega)).trans q2, (hs_ne (by omega)).trans q3, (hs_ne (by omega)).trans q4, (hs_ne (by omega)).trans q5, q6, q7⟩
theorem nw_step {co : Nat → Int32} {k i : Nat} (h : ∀ j, j < i → ¬ co j = co k) (hi : ¬ co i = co k) : ∀ j, j < i + 1 → ¬ co j = co k := fun j hj => by
  by_cases e : j = i
  · subst e; exact hi
  · exact h j (by omega)
def unP (co : Nat → Int32) (N : Nat) (i : Nat) (s : Int32) : Int32 := if nwP co (i + 1) ∨ (i + 1 = N ∧ co (i + 1) = nI 1865) then s + nI 0 else s + nI 1
def untI (co : Nat → Int32) (N : Nat) : Int32 := itr (unP co N) N (nI 0)
theorem itr_cg {σ : Type} {f g : Nat → σ → σ} {s : σ} {N : Nat} (h : ∀ i s, i < N → f i s = g i s) : ∀ k, k ≤ N → itr f k s = itr g k s := by
  intro k
  induction k with
  | zero => intro _; rfl
  | succ k ih =>
    intro hk
    show f k (itr f k s) = g k (itr g k s)
    rw [ih (by omega), h k _ (by omega)]
theorem nwP_cg {co c : Nat → Int32} {k : Nat} (h : ∀ j, j ≤ k → co j = c j) : nwP co k ↔ nwP c k := by
  constructor
  · intro q i hi; rw [← h i (by omega), ← h k (Nat.le_refl k)]; exact q i hi
  · intro q i hi; rw [h i (by omega), h k (Nat.le_refl k)]; exact q i hi
theorem unt_cg {co c : Nat → Int32} {N : Nat} (h : ∀ j, j ≤ N → co j = c j) : untI co N = untI c N := by
  refine itr_cg (fun i s hi => ?_) N (Nat.le_refl N)
  unfold unP
  have e1 := h (i + 1) (by omega)
  have e : (nwP co (i + 1) ∨ (i + 1 = N ∧ co (i + 1) = nI 1865)) ↔ (nwP c (i + 1) ∨ (i + 1 = N ∧ c (i + 1) = nI 1865)) := by rw [nwP_cg (fun j hj => h j (by omega)), e1]
  by_cases q : nwP c (i + 1) ∨ (i + 1 = N ∧ c (i + 1) = nI 1865)
  · rw [if_pos q, if_pos (e.mpr q)]
  · rw [if_neg q, if_neg (fun z => q (e.mp z))]
def dofI (d : Nat → Int32) (b N : Nat) : Int32 := itr (fun k s => s + ((d k >>> (nI b &&& 31)) &&& nI 1)) N (nI 0)
theorem dof_cg {dg d : Nat → Int32} {b N : Nat} (h : ∀ k, k < N → dg (k + 1) = d k) : itr (fun k s => s + ((dg (k + 1) >>> (nI b &&& 31)) &&& nI 1)) N (nI 0) = dofI d b N :=
  itr_cg (fun i s hi => by rw [h i hi]) N (Nat.le_refl N)
def mcr (ch : Nat → Int32) (M : Nat) : Nat → Nat → Nat
  | 0, n => n
  | f + 1, n => if codI ch (n * M) = nI 1865 then n else mcr ch M f (n + 1)
theorem mcr_end {ch : Nat → Int32} {M i : Nat} (hi : i < 5) (h : codI ch ((i + 1) * M) = nI 1865) : mcr ch M (5 - i) (i + 1) = i + 1 := by
  have e : 5 - i = (5 - (i + 1)) + 1 := by omega
  rw [e, mcr, if_pos h]
theorem mcr_step {ch : Nat → Int32} {M i : Nat} (hi : i < 5) (h : ¬ codI ch ((i + 1) * M) = nI 1865) : mcr ch M (5 - i) (i + 1) = mcr ch M (5 - (i + 1)) (i + 1 + 1) := by
  have e : 5 - i = (5 - (i + 1)) + 1 := by omega
  rw [e, mcr, if_neg h]
def crM (ch : Nat → Int32) (M : Nat) : Nat := mcr ch M 5 1
theorem mcr_le (ch : Nat → Int32) (M : Nat) : ∀ f n, n ≤ mcr ch M f n ∧ mcr ch M f n ≤ n + f := by
  intro f
  induction f with
  | zero => intro n; exact ⟨Nat.le_refl n, Nat.le_refl n⟩
  | succ f ih =>
    intro n
    rw [mcr]
    split
    · omega
    · have := ih (n + 1); omega
theorem crM_le (ch : Nat → Int32) (M : Nat) : 1 ≤ crM ch M ∧ crM ch M ≤ 6 := mcr_le ch M 5 1
/-- the model's touch: a ringer's own changes, then all ringers -/
def tkP (d sk : Nat → Int32) (bl r : Nat) (k : Nat) (s : (Nat → Int32) × Int32) : (Nat → Int32) × Int32 := if (d k >>> (nI bl &&& 31)) &&& nI 1 = 0 then s else (upd s.1 r (tiredV (s.1 r)), if nI 2 * sk r < tiredV (s.1 r) then s.2 + nI 1 else s.2 + nI 0)
def mrP (st sk d : Nat → Int32) (b : Nat) (mo : Int32) (N : Nat) (r : Nat) (s : TR) : TR := if bandI (st r) = nI b then ((itr (tkP d sk (bellN (st r)) r) N (s.1, nI 0)).1, upd s.2.1 r (s.2.1 r + (itr (tkP d sk (bellN (st r)) r) N (s.1, nI 0)).2), upd s.2.2 r (clampI (s.2.2 r + mo - (itr (tkP d sk (bellN (st r)) r) N (s.1, nI 0)).2))) else s
/-- tired, faults, votes behind a touch of N changes -/
def mrI (st sk d : Nat → Int32) (rc b : Nat) (mo : Int32) (N : Nat) (s : TR) : TR := itr (mrP st sk d b mo N) rc s
def mmI (ch : Nat → Int32) (N L : Nat) : Int32 := if untI (codI ch) N = 0 ∧ codI ch N = nI 1865 then nI L else -untI (codI ch) N
/-- the places at home, by the digits of a code -/
def hmP (i : Nat) (s : Int32 × Int32) : Int32 × Int32 := (if s.2 - s.2 / nI 6 * nI 6 = nI 5 - nI i then s.1 + nI 1 else s.1 + nI 0, s.2 / nI 6)
def hmI (c : Int32) : Int32 := (itr hmP 6 (nI 0, c)).1
def nwI (co : Nat → Int32) (N : Nat) : Int32 := itr (fun i s => if nwP co i then s + nI 1 else s + nI 0) (N + 1) (nI 0)
theorem nwI_cg {co c : Nat → Int32} {N : Nat} (h : ∀ j, j ≤ N → co j = c j) : nwI co N = nwI c N := by
  refine itr_cg (fun i s hi => ?_) (N + 1) (Nat.le_refl _)
  have e := nwP_cg (co := co) (c := c) (k := i) (fun j hj => h j (by omega))
  by_cases q : nwP c i
  · rw [if_pos q, if_pos (e.mpr q)]
  · rw [if_neg q, if_neg (fun z => q (e.mp z))]
theorem hm_dec : ∀ i, i < 6 → ¬ (nI 5 - nI i) < 0 ∧ (nI 5 - nI i) + Int32.ofInt (-1) = nI 5 - nI (i + 1) := by decide
def mtI (ch : Nat → Int32) (M q : Nat) : Int32 := if q = 0 then nI M else if q = 1 then nI (crM ch M) else if q = 2 then nwI (codI ch) (crM ch M * M) else if q = 3 then untI (codI ch) (crM ch M * M) else if q = 4 then itr (fun b s => s + dofI (ddgI ch) b (crM ch M * M)) 6 (nI 0) else hmI (codI ch (1 * M))
