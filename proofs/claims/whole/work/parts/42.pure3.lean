/-! pure: a course ends within six leads -/
def tb6 (a b c d e f : Nat) (x : Nat) : Nat := if x = 0 then a else if x = 1 then b else if x = 2 then c else if x = 3 then d else if x = 4 then e else f
def itN (F : Nat → Nat) : Nat → Nat → Nat
  | 0, x => x
  | n + 1, x => F (itN F n x)
def okN (F : Nat → Nat) (n : Nat) : Bool := itN F n 0 == 0 && itN F n 1 == 1 && itN F n 2 == 2 && itN F n 3 == 3 && itN F n 4 == 4 && itN F n 5 == 5
def chk6 (a b c d e f : Nat) : Bool := okN (tb6 a b c d e f) 1 || okN (tb6 a b c d e f) 2 || okN (tb6 a b c d e f) 3 || okN (tb6 a b c d e f) 4 || okN (tb6 a b c d e f) 5 || okN (tb6 a b c d e f) 6
def allP : Bool := (List.range 6).all fun a => (List.range 6).all fun b => b == a || (List.range 6).all fun c => (c == a || c == b) || (List.range 6).all fun d => (d == a || (d == b || d == c)) || (List.range 6).all fun e => (e == a || (e == b || (e == c || e == d))) || (List.range 6).all fun f => (f == a || (f == b || (f == c || (f == d || f == e)))) || chk6 a b c d e f
set_option maxRecDepth 100000 in
theorem allP_t : allP = true := by decide +kernel
theorem chk_dec (a : Nat) (ha : a < 6) (b : Nat) (hb : b < 6) (b1 : b ≠ a) (c : Nat) (hc : c < 6) (c1 : c ≠ a) (c2 : c ≠ b) (d : Nat) (hd : d < 6) (d1 : d ≠ a) (d2 : d ≠ b) (d3 : d ≠ c) (e : Nat) (he : e < 6) (e1 : e ≠ a) (e2 : e ≠ b) (e3 : e ≠ c) (e4 : e ≠ d) (f : Nat) (hf : f < 6) (f1 : f ≠ a) (f2 : f ≠ b) (f3 : f ≠ c) (f4 : f ≠ d) (f5 : f ≠ e) : chk6 a b c d e f = true := by
  have h1 := List.all_eq_true.mp allP_t a (List.mem_range.mpr ha)
  have h2 := List.all_eq_true.mp h1 b (List.mem_range.mpr hb)
  simp only [Bool.or_eq_true, beq_iff_eq] at h2
  have h3 := List.all_eq_true.mp (h2.resolve_left b1) c (List.mem_range.mpr hc)
  simp only [Bool.or_eq_true, beq_iff_eq] at h3
  have h4 := List.all_eq_true.mp (h3.resolve_left fun q => q.elim c1 c2) d (List.mem_range.mpr hd)
  simp only [Bool.or_eq_true, beq_iff_eq] at h4
  have h5 := List.all_eq_true.mp (h4.resolve_left fun q => q.elim d1 fun q => q.elim d2 d3) e (List.mem_range.mpr he)
  simp only [Bool.or_eq_true, beq_iff_eq] at h5
  have h6 := List.all_eq_true.mp (h5.resolve_left fun q => q.elim e1 fun q => q.elim e2 fun q => q.elim e3 e4) f (List.mem_range.mpr hf)
  simp only [Bool.or_eq_true, beq_iff_eq] at h6
  exact h6.resolve_left fun q => q.elim f1 fun q => q.elim f2 fun q => q.elim f3 fun q => q.elim f4 f5
theorem okN_use {F G : Nat → Nat} (hF : ∀ x, x < 6 → F x < 6) (hG : ∀ x, x < 6 → G x = F x) {n : Nat} (h : okN G n = true) : ∀ x, x < 6 → itN F n x = x := by
  have e : ∀ n x, x < 6 → itN G n x = itN F n x ∧ itN F n x < 6 := by
    intro n
    induction n with
    | zero => intro x hx; exact ⟨rfl, hx⟩
    | succ n ih =>
      intro x hx
      obtain ⟨h1, h2⟩ := ih x hx
      refine ⟨?_, hF _ h2⟩
      show G (itN G n x) = F (itN F n x)
      rw [h1, hG _ h2]
  unfold okN at h
  simp only [Bool.and_eq_true, beq_iff_eq] at h
  obtain ⟨⟨⟨⟨⟨h0, h1⟩, h2⟩, h3⟩, h4⟩, h5⟩ := h
  intro x hx
  rw [← (e n x hx).1]
  rcases (show x = 0 ∨ x = 1 ∨ x = 2 ∨ x = 3 ∨ x = 4 ∨ x = 5 by omega) with rfl | rfl | rfl | rfl | rfl | rfl <;> assumption
theorem perm_order {F : Nat → Nat} (hF : ∀ x, x < 6 → F x < 6) (hi : ∀ x y, x < 6 → y < 6 → F x = F y → x = y) : ∃ n, 1 ≤ n ∧ n ≤ 6 ∧ ∀ x, x < 6 → itN F n x = x := by
  have hn : ∀ x y, x < 6 → y < 6 → x ≠ y → F x ≠ F y := fun x y h1 h2 h3 h4 => h3 (hi x y h1 h2 h4)
  have h := chk_dec (F 0) (hF 0 (by decide)) (F 1) (hF 1 (by decide)) (hn _ _ (by decide) (by decide) (by decide)) (F 2) (hF 2 (by decide)) (hn _ _ (by decide) (by decide) (by decide)) (hn _ _ (by decide) (by decide) (by decide)) (F 3) (hF 3 (by decide)) (hn _ _ (by decide) (by decide) (by decide)) (hn _ _ (by decide) (by decide) (by decide)) (hn _ _ (by decide) (by decide) (by decide)) (F 4) (hF 4 (by decide)) (hn _ _ (by decide) (by decide) (by decide)) (hn _ _ (by decide) (by decide) (by decide)) (hn _ _ (by decide) (by decide) (by decide)) (hn _ _ (by decide) (by decide) (by decide)) (F 5) (hF 5 (by decide)) (hn _ _ (by decide) (by decide) (by decide)) (hn _ _ (by decide) (by decide) (by decide)) (hn _ _ (by decide) (by decide) (by decide)) (hn _ _ (by decide) (by decide) (by decide)) (hn _ _ (by decide) (by decide) (by decide))
  have hG : ∀ x, x < 6 → tb6 (F 0) (F 1) (F 2) (F 3) (F 4) (F 5) x = F x := fun x hx => by
    rcases (show x = 0 ∨ x = 1 ∨ x = 2 ∨ x = 3 ∨ x = 4 ∨ x = 5 by omega) with rfl | rfl | rfl | rfl | rfl | rfl <;> rfl
  unfold chk6 at h
  simp only [Bool.or_eq_true] at h
  rcases h with ((((h | h) | h) | h) | h) | h
  · exact ⟨1, by omega, by omega, okN_use hF hG h⟩
  · exact ⟨2, by omega, by omega, okN_use hF hG h⟩
  · exact ⟨3, by omega, by omega, okN_use hF hG h⟩
  · exact ⟨4, by omega, by omega, okN_use hF hG h⟩
  · exact ⟨5, by omega, by omega, okN_use hF hG h⟩
  · exact ⟨6, by omega, by omega, okN_use hF hG h⟩
/-- where changes lead from a place -/
def go6 (c : Nat → Int32) (j x : Nat) : Nat := itr (fun i y => fpl (c i) y) j x
theorem tq_go {c ma : Nat → Int32} (j b : Nat) : (tq c ma j).1 b = go6 c j b := by
  induction j with
  | zero => rfl
  | succ j ih =>
    show fpl (c j) ((tq c ma j).1 b) = fpl (c j) (go6 c j b)
    rw [ih]
theorem go_lead {ch : Nat → Int32} {m n x : Nat} : go6 (fun q => ch (q % m)) ((n + 1) * m) x = go6 (fun q => ch (q % m)) (1 * m) (go6 (fun q => ch (q % m)) (n * m) x) := by
  unfold go6
  rw [Nat.succ_mul, itr_add, Nat.one_mul]
  exact itr_cg (fun i s hi => by show fpl (ch ((n * m + i) % m)) s = fpl (ch (i % m)) s; rw [mod_at hi, Nat.mod_eq_of_lt hi]) m (Nat.le_refl m)
theorem go_itN {ch : Nat → Int32} {m x : Nat} : ∀ n, go6 (fun q => ch (q % m)) (n * m) x = itN (go6 (fun q => ch (q % m)) (1 * m)) n x := by
  intro n
  induction n with
  | zero => rw [Nat.zero_mul]; rfl
  | succ n ih => rw [go_lead, ih]; rfl
theorem mcr_hit {c : Nat → Int32} {M : Nat} : ∀ f n, (∃ k, n ≤ k ∧ k ≤ n + f ∧ codI c (k * M) = nI 1865) → codI c (mcr c M f n * M) = nI 1865 := by
  intro f
  induction f with
  | zero =>
    rintro n ⟨k, h1, h2, h3⟩
    obtain rfl : k = n := by omega
    exact h3
  | succ f ih =>
    rintro n ⟨k, h1, h2, h3⟩
    rw [mcr]
    by_cases q : codI c (n * M) = nI 1865
    · rw [if_pos q]; exact q
    · rw [if_neg q]
      refine ih (n + 1) ⟨k, ?_, by omega, h3⟩
      by_cases e : k = n
      · subst e; exact absurd h3 q
      · omega
theorem crM_hit {ch : Nat → Int32} {m : Nat} (hc : ∀ i, vchg (ch (i % m))) : codI (fun q => ch (q % m)) (crM (fun q => ch (q % m)) m * m) = nI 1865 := by
  refine mcr_hit 5 1 ?_
  have hr := fun j => (rel_all (c := fun q => ch (q % m)) ma0 hc j).1
  have hp := hr (1 * m)
  obtain ⟨n, h1, h2, h3⟩ := perm_order (F := go6 (fun q => ch (q % m)) (1 * m)) (fun x hx => by rw [← tq_go (ma := ma0)]; exact (hp.1 x hx).1)
    (fun x y hx hy e => by
      rw [← tq_go (ma := ma0), ← tq_go (ma := ma0)] at e
      rw [← (hp.1 x hx).2, e, (hp.1 y hy).2])
  refine ⟨n, h1, by omega, ?_⟩
  rw [codI_rnd, cod_rnd (hr (n * m)).r]
  have hid : ∀ b, b < 6 → (tq (fun q => ch (q % m)) ma0 (n * m)).1 b = (fun b => b) b := fun b hb => by
    rw [tq_go, go_itN]; exact h3 b hb
  exact (rel_eq (hr (n * m)) rel_0).mpr hid
/-! pure: places at home, by digits and by bells -/
def ind6 (r : Nat → Nat) (x : Nat) : Nat := if r x = x then 1 else 0
theorem hmP_at {r : Nat → Nat} {A B i : Nat} {z : Int32} {s : Nat} (hA : A < 46656) (e : A = 6 * B + r (5 - i)) (hr : r (5 - i) < 6) (hi : i < 6) (hz : nI 5 - nI i = nI (5 - i)) : hmP i (nI s, nI A) = (nI (s + ind6 r (5 - i)), nI B) := by
  unfold hmP ind6
  have e1 : nI A - nI A / nI 6 * nI 6 = nI (r (5 - i)) := by rw [pk_rem (by omega) (by omega) (by omega)]; congr 1; omega
  have e2 : nI A / nI 6 = nI B := by rw [pk_div (by omega) (by omega) (by omega)]; congr 1; omega
  show (if nI A - nI A / nI 6 * nI 6 = nI 5 - nI i then nI s + nI 1 else nI s + nI 0, nI A / nI 6) = _
  rw [e1, e2, hz]
  by_cases h : r (5 - i) = 5 - i
  · rw [if_pos (by rw [h]), if_pos h, nI_add]
  · rw [if_neg (fun q => h ((gn_eq (by omega)).mp q)), if_neg h, nI_add]
theorem hmI_eq {r : Nat → Nat} (hr : vplc r) : hmI (nI (codN r)) = nI (ind6 r 0 + ind6 r 1 + ind6 r 2 + ind6 r 3 + ind6 r 4 + ind6 r 5) := by
  have a0 := hr 0 (by omega); have a1 := hr 1 (by omega); have a2 := hr 2 (by omega); have a3 := hr 3 (by omega); have a4 := hr 4 (by omega); have a5 := hr 5 (by omega)
  have e1 : codN r = 6 * (6 * (6 * (6 * (6 * (6 * 0 + r 0) + r 1) + r 2) + r 3) + r 4) + r 5 := rfl
  have h0 := hmP_at (r := r) (z := 0) (s := 0) (i := 0) (A := codN r) (B := 6 * (6 * (6 * (6 * (6 * 0 + r 0) + r 1) + r 2) + r 3) + r 4) (by omega) e1 a5 (by omega) (by decide)
  have h1 := hmP_at (r := r) (z := 0) (s := 0 + ind6 r 5) (i := 1) (A := 6 * (6 * (6 * (6 * (6 * 0 + r 0) + r 1) + r 2) + r 3) + r 4) (B := 6 * (6 * (6 * (6 * 0 + r 0) + r 1) + r 2) + r 3) (by omega) rfl a4 (by omega) (by decide)
  have h2 := hmP_at (r := r) (z := 0) (s := 0 + ind6 r 5 + ind6 r 4) (i := 2) (A := 6 * (6 * (6 * (6 * 0 + r 0) + r 1) + r 2) + r 3) (B := 6 * (6 * (6 * 0 + r 0) + r 1) + r 2) (by omega) rfl a3 (by omega) (by decide)
  have h3 := hmP_at (r := r) (z := 0) (s := 0 + ind6 r 5 + ind6 r 4 + ind6 r 3) (i := 3) (A := 6 * (6 * (6 * 0 + r 0) + r 1) + r 2) (B := 6 * (6 * 0 + r 0) + r 1) (by omega) rfl a2 (by omega) (by decide)
  have h4 := hmP_at (r := r) (z := 0) (s := 0 + ind6 r 5 + ind6 r 4 + ind6 r 3 + ind6 r 2) (i := 4) (A := 6 * (6 * 0 + r 0) + r 1) (B := 6 * 0 + r 0) (by omega) rfl a1 (by omega) (by decide)
  have h5 := hmP_at (r := r) (z := 0) (s := 0 + ind6 r 5 + ind6 r 4 + ind6 r 3 + ind6 r 2 + ind6 r 1) (i := 5) (A := 6 * 0 + r 0) (B := 0) (by omega) rfl a0 (by omega) (by decide)
  unfold hmI
  show (hmP 5 (hmP 4 (hmP 3 (hmP 2 (hmP 1 (hmP 0 (nI 0, nI (codN r)))))))).1 = _
  rw [h0, h1, h2, h3, h4, h5]
  show nI _ = nI _
  congr 1
  show 0 + ind6 r 5 + ind6 r 4 + ind6 r 3 + ind6 r 2 + ind6 r 1 + ind6 r 0 = _
  omega
theorem home_ind {p row : Nat → Nat} (h : REL p row) : homeI p = nI (ind6 row 0 + ind6 row 1 + ind6 row 2 + ind6 row 3 + ind6 row 4 + ind6 row 5) := by
  have e : homeI p = nI (cntN (fun b => p b = b) 6) := cnt_nat
  have hb : ∀ b, b < 6 → (p b = b ↔ row b = b) := fun b hb => ⟨fun q => by
    have := (h.1 b hb).2
    rw [q] at this; exact this, fun q => by
    have := (h.2 b hb).2
    rw [q] at this; exact this⟩
  have e2 : cntN (fun b => p b = b) 6 = cntN (fun b => row b = b) 6 := cnt_cg hb
  rw [e, e2]
  congr 1
  have s : ∀ n, cntN (fun b => row b = b) (n + 1) = cntN (fun b => row b = b) n + ind6 row n := fun n => by
    rw [cnt_S]; unfold ind6; split <;> rfl
  rw [s, s, s, s, s, s]
  show 0 + _ + _ + _ + _ + _ + _ = _
  omega
theorem home_hm {c ma : Nat → Int32} (hc : ∀ i, vchg (c i)) (j : Nat) : homeI (tq c ma j).1 = hmI (codI c j) := by
  have h := (rel_all ma hc j).1
  rw [home_ind h]
  exact (hmI_eq h.r).symm
/-- what the class keeps of a course is what the model tells -/
theorem about_eq {ch ma : Nat → Int32} {m q : Nat} (hm : m ≤ 12) (hc : ∀ i, vchg (ch (i % m))) :
    aboutI m (nI (crsI ch m ma).1) ((crsI ch m ma).2.1.2.2.2.2.1 + nI 1 - (crsI ch m ma).2.1.2.2.2.2.2) (frI (crsI ch m ma).2.1.1 (crsI ch m ma).2.1.2.2.2.2.1 (crsI ch m ma).2.1.2.2.2.2.2) (crsI ch m ma).2.2 (homeI (crs1 ch m ma).1.1) q = mtI (fun q => ch (q % m)) m q := by
  have hN := Nat.mul_le_mul (crM_le (fun q => ch (q % m)) m).2 hm
  have e1 := crsI_eq (ma := ma) hc
  have e2 := crs1_eq (ch := ch) (ma := ma) (m := m)
  rw [e1, e2]
  unfold aboutI mtI
  show (if q = 0 then nI m else if q = 1 then nI (crM (fun q => ch (q % m)) m) else if q = 2 then (lq (fun q => ch (q % m)) ma (crM (fun q => ch (q % m)) m * m)).1.2.2.2.2.1 + nI 1 - (lq (fun q => ch (q % m)) ma (crM (fun q => ch (q % m)) m * m)).1.2.2.2.2.2 else if q = 3 then frI (lq (fun q => ch (q % m)) ma (crM (fun q => ch (q % m)) m * m)).1.1 (lq (fun q => ch (q % m)) ma (crM (fun q => ch (q % m)) m * m)).1.2.2.2.2.1 (lq (fun q => ch (q % m)) ma (crM (fun q => ch (q % m)) m * m)).1.2.2.2.2.2 else if q = 4 then sumI (lq (fun q => ch (q % m)) ma (crM (fun q => ch (q % m)) m * m)).2 6 else homeI (lq (fun q => ch (q % m)) ma (1 * m)).1.1) = _
  rw [lq_1, lq_1, nw_eq hc, un_eq hc (by omega), home_hm hc]
  have e4 : sumI (lq (fun q => ch (q % m)) ma (crM (fun q => ch (q % m)) m * m)).2 6 = itr (fun b s => s + dofI (ddgI fun q => ch (q % m)) b (crM (fun q => ch (q % m)) m * m)) 6 (nI 0) :=
    itr_cg (fun b s hb => by rw [lq_2 hc hb]) 6 (Nat.le_refl 6)
  rw [e4]
/-! pure: a row -/
theorem ffz_eq {p : Nat → Nat} {x b0 : Nat} (h0 : p b0 = x) : ∀ k i, i ≤ b0 → b0 < i + k → (∀ b, i ≤ b → b < b0 → p b ≠ x) → ffz (fun b => decide (p b = x)) i k = nI b0 := by
  intro k
  induction k with
  | zero => intro i h1 h2; omega
  | succ k ih =>
    intro i h1 h2 h3
    unfold ffz
    by_cases e : i = b0
    · subst e
      rw [if_pos (decide_eq_true h0)]
    · rw [if_neg (by simpa using h3 i (Nat.le_refl i) (by omega))]
      exact ih (i + 1) (by omega) (by omega) fun b hb1 hb2 => h3 b (by omega) hb2
theorem bellAt_eq {p row : Nat → Nat} (h : REL p row) {x : Nat} (hx : x < 6) : bellAtI p x = nI (row x) := by
  obtain ⟨h1, h2⟩ := h.2 x hx
  refine ffz_eq h2 6 0 (Nat.zero_le _) (by omega) fun b _ hb e => ?_
  have := (h.1 b (by omega)).2
  rw [e] at this
  omega
theorem row_cod {p row : Nat → Nat} (h : REL p row) : rowI p = nI (codN row) := by
  have e : rowI p = itr (fun x (s : Int32) => s * nI 6 + nI (row x)) 6 (nI 0) := itr_cg (fun x s hx => by rw [bellAt_eq h hx]) 6 (Nat.le_refl 6)
  rw [e]
  show ((((((nI 0 * nI 6 + nI (row 0)) * nI 6 + nI (row 1)) * nI 6 + nI (row 2)) * nI 6 + nI (row 3)) * nI 6 + nI (row 4)) * nI 6 + nI (row 5)) = _
  simp only [pk_mul, nI_add]
  congr 1
  show _ = 6 * (6 * (6 * (6 * (6 * (6 * 0 + row 0) + row 1) + row 2) + row 3) + row 4) + row 5
  omega
theorem mod_up {m j : Nat} (hm : 0 < m) : (if m ≤ j % m + 1 then 0 else j % m + 1) = (j + 1) % m := by
  have h1 := Nat.mod_lt j hm
  have h2 := Nat.div_add_mod j m
  by_cases h : m ≤ j % m + 1
  · rw [if_pos h]
    have e : j + 1 = m * (j / m + 1) + 0 := by rw [Nat.mul_add]; omega
    rw [e, Nat.mul_add_mod]; rfl
  · rw [if_neg h]
    have e : j + 1 = m * (j / m) + (j % m + 1) := by omega
    rw [e, Nat.mul_add_mod, Nat.mod_eq_of_lt (a := j % m + 1) (b := m) (by omega)]
theorem row_eq {ch ma : Nat → Int32} {m d : Nat} (hm : 0 < m) (hc : ∀ i, vchg (ch (i % m))) : rowI (rowT ch m d ma).2.1 = codI (fun q => ch (q % m)) d := by
  have e : ∀ j, itr (fun _ s => rowS ch m s) j (0, tbegin ma) = (j % m, tq (fun q => ch (q % m)) ma j) := by
    intro j
    induction j with
    | zero => rw [Nat.zero_mod]; rfl
    | succ j ih =>
      show rowS ch m (itr (fun _ s => rowS ch m s) j (0, tbegin ma)) = _
      rw [ih, ← mod_up hm]
      rfl
  unfold rowT
  rw [e]
  exact row_cod (rel_all ma hc d).1
