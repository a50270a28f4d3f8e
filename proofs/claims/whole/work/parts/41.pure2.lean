/-! pure: rows seen -/
def SEE (sn : Nat → Int64) (S : Nat → Prop) : Prop := ∀ k, k < 7776 → ((sn (k / 64) &&& bitL k) = 0 ↔ ¬ S k)
set_option maxRecDepth 20000 in
theorem bl_dec : ∀ j, j < 64 → ((1 : Int64) <<< ((nI j).toInt64 &&& 63)).toBitVec = BitVec.twoPow 64 j := by decide +kernel
set_option maxRecDepth 20000 in
theorem bl_n0 : ∀ j, j < 64 → BitVec.twoPow 64 j ≠ 0#64 := by decide +kernel
theorem bl_tb (k : Nat) : (bitL k).toBitVec = BitVec.twoPow 64 (k % 64) := bl_dec _ (Nat.mod_lt _ (by decide))
theorem bl_and (x : Int64) (k : Nat) : (x &&& bitL k) = 0 ↔ x.toBitVec.getLsbD (k % 64) = false := by
  have h : k % 64 < 64 := Nat.mod_lt _ (by decide)
  rw [← Int64.toBitVec_inj, Int64.toBitVec_and, bl_tb, BitVec.and_twoPow]
  show (if x.toBitVec.getLsbD (k % 64) = true then BitVec.twoPow 64 (k % 64) else 0#64) = 0#64 ↔ _
  cases x.toBitVec.getLsbD (k % 64) with
  | true => exact ⟨fun e => absurd e (bl_n0 _ h), fun e => nomatch e⟩
  | false => exact ⟨fun _ => rfl, fun _ => rfl⟩
theorem bl_or (x : Int64) (k : Nat) {j : Nat} (_hj : j < 64) : (x ||| bitL k).toBitVec.getLsbD j = (x.toBitVec.getLsbD j || decide (k % 64 = j)) := by
  have h : k % 64 < 64 := Nat.mod_lt _ (by decide)
  rw [Int64.toBitVec_or, bl_tb, BitVec.getLsbD_or, BitVec.getLsbD_twoPow, decide_eq_true h, Bool.true_and]
theorem see_0 : SEE (fun _ => 0) (fun _ => False) := fun k _ => by
  rw [bl_and]
  exact ⟨fun _ h => h, fun _ => BitVec.getLsbD_zero⟩
theorem see_note {sn : Nat → Int64} {S : Nat → Prop} {k : Nat} (h : SEE sn S) (hk : k < 7776) : SEE (noteI sn k) (fun q => S q ∨ q = k) := fun q hq => by
  have hq6 : q % 64 < 64 := Nat.mod_lt _ (by decide)
  have h1 := h q hq
  rw [bl_and] at h1 ⊢
  unfold noteI
  by_cases e : q / 64 = k / 64
  · rw [e, pk_uLs, bl_or _ _ hq6]
    rw [e] at h1
    by_cases e2 : k % 64 = q % 64
    · have : q = k := by omega
      rw [decide_eq_true e2, Bool.or_true]
      exact ⟨fun z => (nomatch z), fun z => absurd (Or.inr this) z⟩
    · rw [decide_eq_false e2, Bool.or_false, h1]
      exact ⟨fun z w => w.elim z (fun y => e2 (by rw [y])), fun z w => z (Or.inl w)⟩
  · rw [pk_uLn e, h1]
    exact ⟨fun z w => w.elim z (fun y => e (by rw [y])), fun z w => z (Or.inl w)⟩
theorem see_cg {sn : Nat → Int64} {S T : Nat → Prop} (h : SEE sn S) (e : ∀ q, S q ↔ T q) : SEE sn T := fun k hk => by rw [h k hk, e k]
theorem lg0 (x : Int64) : lg_cmp x 0 = 0 ↔ x = 0 := by
  unfold lg_cmp
  split
  · next h => exact ⟨fun e => absurd e (by decide), fun e => by subst e; exact absurd h (by decide)⟩
  · split
    · next h => exact ⟨fun _ => h, fun _ => rfl⟩
    · next h => exact ⟨fun e => absurd e (by decide), fun e => absurd e h⟩
theorem cod_lt {c : Nat → Int32} (j : Nat) : codN (wkI c j).1 < 46656 := codN_lt (wkI_ok c j)
theorem codI_eq {c : Nat → Int32} {i j : Nat} : codI c i = codI c j ↔ codN (wkI c i).1 = codN (wkI c j).1 := by
  have h1 := cod_lt (c := c) i
  have h2 := cod_lt (c := c) j
  exact gn_eq (by omega)
theorem codI_rnd {c : Nat → Int32} {j : Nat} : codI c j = nI 1865 ↔ codN (wkI c j).1 = 1865 := by
  have h1 := cod_lt (c := c) j
  exact gn_eq (by omega)
theorem codI_0 {c : Nat → Int32} : codI c 0 = nI 1865 := congrArg nI (show codN (fun b => b) = 1865 by decide +kernel)
theorem nw_key {c ma : Nat → Int32} (hc : ∀ i, vchg (c i)) (j : Nat) : (∃ i, i ≤ j ∧ keyN (tq c ma i).1 = keyN (tq c ma (j + 1)).1) ↔ ¬ nwP (codI c) (j + 1) := by
  have hk : ∀ i, keyN (tq c ma i).1 = keyN (tq c ma (j + 1)).1 ↔ codI c i = codI c (j + 1) := fun i => by
    rw [codI_eq, cod_key (rel_all ma hc i).1 (rel_all ma hc (j + 1)).1]
  constructor
  · rintro ⟨i, h1, h2⟩ h
    exact h i (by omega) ((hk i).mp h2)
  · intro h
    refine Classical.byContradiction fun z => h fun i hi e => z ⟨i, by omega, (hk i).mpr e⟩
abbrev repP (c : Nat → Int32) (i : Nat) : Prop := ¬ nwP (codI c) (i + 1)
theorem tq_all {c ma : Nat → Int32} (hc : ∀ i, vchg (c i)) : ∀ j, SEE (tq c ma j).2.2.2.1 (fun q => ∃ i, i ≤ j ∧ keyN (tq c ma i).1 = q) ∧ (tq c ma j).2.2.2.2.1 = nI j ∧ (tq c ma j).2.2.2.2.2 = nI (cntN (repP c) j) := by
  intro j
  induction j with
  | zero =>
    have hk : keyN (fun b => b) < 7776 := keyN_lt fun b hb => hb
    refine ⟨see_cg (see_note see_0 hk) fun q => ?_, rfl, ?_⟩
    · constructor
      · rintro (h | h)
        · exact h.elim
        · exact ⟨0, Nat.le_refl 0, h.symm⟩
      · rintro ⟨i, h1, h2⟩
        obtain rfl : i = 0 := by omega
        exact Or.inr h2.symm
    · show rrI (fun _ => 0) (keyN fun b => b) (nI 0) = nI 0
      unfold rrI
      rw [if_pos ((lg0 _).mpr ((see_0 _ hk).mpr fun h => h))]
  | succ j ih =>
    obtain ⟨h1, h2, h3⟩ := ih
    have hk : keyN (tq c ma (j + 1)).1 < 7776 := keyN_lt (rel_all ma hc (j + 1)).1.p
    refine ⟨see_cg (see_note h1 hk) fun q => ?_, ?_, ?_⟩
    · constructor
      · rintro (⟨i, g1, g2⟩ | h)
        · exact ⟨i, by omega, g2⟩
        · exact ⟨j + 1, Nat.le_refl _, h.symm⟩
      · rintro ⟨i, g1, g2⟩
        by_cases e : i = j + 1
        · subst e; exact Or.inr g2.symm
        · exact Or.inl ⟨i, by omega, g2⟩
    · show (tq c ma j).2.2.2.2.1 + nI 1 = nI (j + 1)
      rw [h2, nI_add]
    · show rrI (tq c ma j).2.2.2.1 (keyN (tq c ma (j + 1)).1) (tq c ma j).2.2.2.2.2 = _
      unfold rrI
      rw [h3, cnt_S]
      have e := h1 _ hk
      by_cases hn : repP c j
      · have z : ¬ lg_cmp ((tq c ma j).2.2.2.1 (keyN (tq c ma (j + 1)).1 / 64) &&& bitL (keyN (tq c ma (j + 1)).1)) 0 = 0 := fun q => (e.mp ((lg0 _).mp q)) ((nw_key hc j).mpr hn)
        rw [if_neg z, if_pos hn, nI_add]
      · have z : lg_cmp ((tq c ma j).2.2.2.1 (keyN (tq c ma (j + 1)).1 / 64) &&& bitL (keyN (tq c ma (j + 1)).1)) 0 = 0 := (lg0 _).mpr (e.mpr fun q => hn ((nw_key hc j).mp q))
        rw [if_pos z, if_neg hn]
theorem cnt_cg {P Q : Nat → Prop} [DecidablePred P] [DecidablePred Q] {n : Nat} (h : ∀ i, i < n → (P i ↔ Q i)) : cntN P n = cntN Q n :=
  Nat.le_antisymm (cntN_le fun r hr => (h r hr).mp) (cntN_le fun r hr => (h r hr).mpr)
theorem cnt_neg {P : Nat → Prop} [DecidablePred P] (n : Nat) : itr (fun i (s : Int32) => if P i then s + nI 0 else s + nI 1) n (nI 0) = nI (cntN (fun i => ¬ P i) n) := by
  induction n with
  | zero => rfl
  | succ n ih =>
    rw [cnt_S]
    show (if P n then itr _ n (nI 0) + nI 0 else itr _ n (nI 0) + nI 1) = _
    rw [ih]
    by_cases h : P n
    · rw [if_pos h, if_neg (fun q => q h), nI_add, Nat.add_zero]
    · rw [if_neg h, if_pos h, nI_add]
theorem cnt_pos {P : Nat → Prop} [DecidablePred P] (n : Nat) : itr (fun i (s : Int32) => if P i then s + nI 1 else s + nI 0) n (nI 0) = nI (cntN P n) := by
  induction n with
  | zero => rfl
  | succ n ih =>
    rw [cnt_S]
    show (if P n then itr _ n (nI 0) + nI 1 else itr _ n (nI 0) + nI 0) = _
    rw [ih]
    by_cases h : P n
    · rw [if_pos h, if_pos h, nI_add]
    · rw [if_neg h, if_neg h, nI_add, Nat.add_zero]
theorem un_eq {c ma : Nat → Int32} (hc : ∀ i, vchg (c i)) {N : Nat} (hN : N ≤ 200) : frI (tq c ma N).1 (tq c ma N).2.2.2.2.1 (tq c ma N).2.2.2.2.2 = untI (codI c) N := by
  obtain ⟨-, h2, h3⟩ := tq_all (ma := ma) hc N
  have hu : untI (codI c) N = nI (cntN (fun i => ¬ (nwP (codI c) (i + 1) ∨ (i + 1 = N ∧ codI c (i + 1) = nI 1865))) N) := cnt_neg N
  unfold frI
  rw [h2, h3, hu]
  cases N with
  | zero => rw [if_neg (fun q => absurd q.2 (by decide))]; rfl
  | succ M =>
    have e1 : cntN (fun i => ¬ (nwP (codI c) (i + 1) ∨ (i + 1 = M + 1 ∧ codI c (i + 1) = nI 1865))) M = cntN (repP c) M := cnt_cg fun i hi => ⟨fun q z => q (Or.inl z), fun q z => z.elim q fun y => by omega⟩
    have hpos : (0 : Int32) < nI (M + 1) := (gn_lt (a := 0) ⟨by omega, by omega⟩).mpr (by omega)
    have hh := (home_iff (rel_all ma hc (M + 1)).1).trans codI_rnd.symm
    have hb := cnt_le (P := repP c) M
    rw [cnt_S, cnt_S, e1]
    by_cases hr : codI c (M + 1) = nI 1865
    · have hrep : repP c M := fun q => q 0 (by omega) (codI_0.trans hr.symm)
      rw [if_pos ⟨hh.mpr hr, hpos⟩, if_pos hrep, if_neg (fun q => q (Or.inr ⟨rfl, hr⟩)), pk_sub (by omega), Nat.add_sub_cancel]
    · rw [if_neg (fun q => hr (hh.mp q.1))]
      by_cases hrep : repP c M
      · rw [if_pos hrep, if_pos (fun q => q.elim hrep fun y => hr y.2)]
      · rw [if_neg hrep, if_neg (fun q => hrep fun z => q (Or.inl z))]
theorem nw_sum (c : Nat → Int32) : ∀ N, cntN (nwP (codI c)) (N + 1) + cntN (repP c) N = N + 1 := by
  intro N
  induction N with
  | zero =>
    rw [cnt_S, if_pos (fun i hi => by omega)]
    rfl
  | succ N ih =>
    rw [cnt_S (n := N + 1), cnt_S (n := N) (P := repP c)]
    by_cases h : nwP (codI c) (N + 1)
    · rw [if_pos h, if_neg (fun q => q h)]; omega
    · rw [if_neg h, if_pos h]; omega
theorem nw_eq {c ma : Nat → Int32} (hc : ∀ i, vchg (c i)) {N : Nat} : (tq c ma N).2.2.2.2.1 + nI 1 - (tq c ma N).2.2.2.2.2 = nwI (codI c) N := by
  obtain ⟨-, h2, h3⟩ := tq_all (ma := ma) hc N
  have hu : nwI (codI c) N = nI (cntN (nwP (codI c)) (N + 1)) := cnt_pos (N + 1)
  have hs := nw_sum c N
  rw [h2, h3, hu, nI_add, pk_sub (by omega)]
  congr 1
  omega
/-! pure: dodges -/
theorem mv3 (x c : Int32) : mvI x c = nI 1 ∨ mvI x c = -1 ∨ mvI x c = nI 0 := by
  unfold mvI
  split
  · exact Or.inl rfl
  · split
    · exact Or.inr (Or.inl rfl)
    · exact Or.inr (Or.inr rfl)
theorem tq_mv {c ma : Nat → Int32} (j b : Nat) : (tq c ma j).2.1 b = nI 1 ∨ (tq c ma j).2.1 b = -1 ∨ (tq c ma j).2.1 b = nI 0 := by
  cases j with
  | zero => exact Or.inr (Or.inr rfl)
  | succ j => exact mv3 _ _
def dgb (b : Nat) (x : Bool) (d : Int32) : Int32 := if x then d ||| (nI 1 <<< (nI b &&& 31)) else d
set_option maxRecDepth 20000 in
theorem dgb_dec : ∀ x0 x1 x2 x3 x4 x5 : Bool, (∀ y, y = dgb 5 x5 (dgb 4 x4 (dgb 3 x3 (dgb 2 x2 (dgb 1 x1 (dgb 0 x0 0))))) → (y >>> (nI 0 &&& 31)) &&& nI 1 = (if x0 then nI 1 else nI 0) ∧ (y >>> (nI 1 &&& 31)) &&& nI 1 = (if x1 then nI 1 else nI 0) ∧ (y >>> (nI 2 &&& 31)) &&& nI 1 = (if x2 then nI 1 else nI 0) ∧ (y >>> (nI 3 &&& 31)) &&& nI 1 = (if x3 then nI 1 else nI 0) ∧ (y >>> (nI 4 &&& 31)) &&& nI 1 = (if x4 then nI 1 else nI 0) ∧ (y >>> (nI 5 &&& 31)) &&& nI 1 = (if x5 then nI 1 else nI 0)) := by
  intro x0 x1 x2 x3 x4 x5 y hy
  subst hy
  revert x0 x1 x2 x3 x4 x5
  decide +kernel
theorem dg_at (go we : Nat → Int32) {b : Nat} (hb : b < 6) : (dgI go we >>> (nI b &&& 31)) &&& nI 1 = if go b * we b < 0 then nI 1 else nI 0 := by
  have e : ∀ k d, dgP go we k d = dgb k (decide (go k * we k < 0)) d := fun k d => by
    unfold dgP dgb
    by_cases h : go k * we k < 0
    · rw [if_pos h, if_pos (decide_eq_true h)]
    · rw [if_neg h, if_neg (by simp [h])]
  have e2 : dgI go we = dgP go we 5 (dgP go we 4 (dgP go we 3 (dgP go we 2 (dgP go we 1 (dgP go we 0 0))))) := rfl
  simp only [e] at e2
  obtain ⟨h0, h1, h2, h3, h4, h5⟩ := dgb_dec _ _ _ _ _ _ _ e2
  have f : ∀ k, (if decide (go k * we k < 0) = true then nI 1 else nI 0) = if go k * we k < 0 then nI 1 else nI 0 := fun k => by simp only [decide_eq_true_eq]
  rw [f] at h0 h1 h2 h3 h4 h5
  rcases (show b = 0 ∨ b = 1 ∨ b = 2 ∨ b = 3 ∨ b = 4 ∨ b = 5 by omega) with rfl | rfl | rfl | rfl | rfl | rfl <;> assumption
theorem dod_iff {g w : Int32} (hg : g = nI 1 ∨ g = -1 ∨ g = nI 0) (hw : w = nI 1 ∨ w = -1 ∨ w = nI 0) : g * w < 0 ↔ ¬ g = 0 ∧ g = -w := by
  rcases hg with rfl | rfl | rfl <;> rcases hw with rfl | rfl | rfl <;> decide
theorem ddg_bit {c ma : Nat → Int32} (hc : ∀ i, vchg (c i)) (k : Nat) {b : Nat} (hb : b < 6) : (ddgI c k >>> (nI b &&& 31)) &&& nI 1 = if dodI (tq c ma (k + 1)).2.1 (tq c ma (k + 1)).2.2.1 b then nI 1 else nI 0 := by
  have h1 : ddgI c k = dgI (wkI c (k + 1)).2 (wkI c k).2 := rfl
  have e1 := (rel_all ma hc (k + 1)).2 b hb
  have e2 := (rel_all ma hc k).2 b hb
  rw [h1, dg_at _ _ hb, ← e1, ← e2]
  have hd := dod_iff (tq_mv (c := c) (ma := ma) (k + 1) b) (tq_mv (c := c) (ma := ma) k b)
  have e3 : dodI (tq c ma (k + 1)).2.1 (tq c ma (k + 1)).2.2.1 b ↔ ¬ (tq c ma (k + 1)).2.1 b = 0 ∧ (tq c ma (k + 1)).2.1 b = -(tq c ma k).2.1 b := Iff.rfl
  by_cases q : (tq c ma (k + 1)).2.1 b * (tq c ma k).2.1 b < 0
  · rw [if_pos q, if_pos (e3.mpr (hd.mp q))]
  · rw [if_neg q, if_neg (fun z => q (hd.mpr (e3.mp z)))]
/-! pure: leads, courses -/
def lq (c ma : Nat → Int32) (j : Nat) : TT × (Nat → Int32) := itr (fun i s => ldStep (c i) s) j (tbegin ma, fun _ => nI 0)
theorem lq_1 {c ma : Nat → Int32} : ∀ j, (lq c ma j).1 = tq c ma j := by
  intro j
  induction j with
  | zero => rfl
  | succ j ih =>
    show tstep (c j) (lq c ma j).1 = tstep (c j) (tq c ma j)
    rw [ih]
theorem add_at {Q : Nat → Prop} [DecidablePred Q] {d : Nat → Int32} : ∀ k x, itr (fun b d => if Q b then upd d b (d b + nI 1) else d) k d x = if x < k ∧ Q x then d x + nI 1 else d x := by
  intro k
  induction k with
  | zero => intro x; rw [if_neg (fun q => by omega)]; rfl
  | succ k ih =>
    intro x
    show (if Q k then upd (itr _ k d) k (itr _ k d k + nI 1) else itr _ k d) x = _
    by_cases hk : Q k
    · rw [if_pos hk]
      by_cases e : x = k
      · subst e; rw [pk_us, ih x, if_neg (fun q => by omega), if_pos ⟨by omega, hk⟩]
      · rw [pk_un e, ih x]
        by_cases h : x < k ∧ Q x
        · rw [if_pos h, if_pos ⟨by omega, h.2⟩]
        · rw [if_neg h, if_neg (fun q => h ⟨by omega, q.2⟩)]
    · rw [if_neg hk, ih x]
      by_cases h : x < k ∧ Q x
      · rw [if_pos h, if_pos ⟨by omega, h.2⟩]
      · rw [if_neg h, if_neg (fun q => h ⟨by
          by_cases e : x = k
          · subst e; exact absurd q.2 hk
          · have := q.1; omega, q.2⟩)]
theorem lq_2 {c ma : Nat → Int32} (hc : ∀ i, vchg (c i)) {b : Nat} (hb : b < 6) : ∀ j, (lq c ma j).2 b = dofI (ddgI c) b j := by
  intro j
  induction j with
  | zero => rfl
  | succ j ih =>
    have e : (lq c ma (j + 1)).2 = dodAdd (tq c ma (j + 1)).2.1 (tq c ma (j + 1)).2.2.1 (lq c ma j).2 := by
      show dodAdd (tstep (c j) (lq c ma j).1).2.1 (tstep (c j) (lq c ma j).1).2.2.1 (lq c ma j).2 = _
      rw [lq_1]; rfl
    have e2 : dofI (ddgI c) b (j + 1) = dofI (ddgI c) b j + ((ddgI c j >>> (nI b &&& 31)) &&& nI 1) := rfl
    rw [e, e2, ddg_bit (ma := ma) hc j hb]
    unfold dodAdd
    rw [add_at (Q := dodI (tq c ma (j + 1)).2.1 (tq c ma (j + 1)).2.2.1) 6 b, ih]
    by_cases h : dodI (tq c ma (j + 1)).2.1 (tq c ma (j + 1)).2.2.1 b
    · rw [if_pos ⟨hb, h⟩, if_pos h]
    · rw [if_neg (fun q => h q.2), if_neg h, gn_a0]
theorem lead_eq {ch ma : Nat → Int32} {m : Nat} (n : Nat) : leadI ch m (lq (fun q => ch (q % m)) ma (n * m)) = lq (fun q => ch (q % m)) ma ((n + 1) * m) := by
  unfold lq leadI
  rw [Nat.succ_mul, itr_add]
  exact itr_cg (fun i s hi => by show ldStep (ch i) s = ldStep (ch ((n * m + i) % m)) s; rw [mod_at hi]) m (Nat.le_refl m)
theorem home_cod {c ma : Nat → Int32} (hc : ∀ i, vchg (c i)) (j : Nat) : homeI (lq c ma j).1.1 = nI 6 ↔ codI c j = nI 1865 := by
  rw [lq_1]
  exact (home_iff (rel_all ma hc j).1).trans codI_rnd.symm
theorem crs_eq {ch ma : Nat → Int32} {m : Nat} (hc : ∀ i, vchg (ch (i % m))) : ∀ f n, crs ch m f n (lq (fun q => ch (q % m)) ma (n * m)) = (mcr (fun q => ch (q % m)) m f n, lq (fun q => ch (q % m)) ma (mcr (fun q => ch (q % m)) m f n * m)) := by
  intro f
  induction f with
  | zero => intro n; rfl
  | succ f ih =>
    intro n
    have h := home_cod (c := fun q => ch (q % m)) (ma := ma) hc (n * m)
    rw [crs, mcr]
    by_cases q : codI (fun q => ch (q % m)) (n * m) = nI 1865
    · rw [if_pos (h.mpr q), if_pos q]
    · rw [if_neg (fun z => q (h.mp z)), if_neg q, lead_eq, ih]
theorem crs1_eq {ch ma : Nat → Int32} {m : Nat} : crs1 ch m ma = lq (fun q => ch (q % m)) ma (1 * m) := by
  have h := lead_eq (ch := ch) (ma := ma) (m := m) 0
  rw [Nat.zero_mul] at h
  exact h
theorem crsI_eq {ch ma : Nat → Int32} {m : Nat} (hc : ∀ i, vchg (ch (i % m))) : crsI ch m ma = (crM (fun q => ch (q % m)) m, lq (fun q => ch (q % m)) ma (crM (fun q => ch (q % m)) m * m)) := by
  unfold crsI
  rw [crs1_eq]
  exact crs_eq hc 5 1
