/-! pure: what is told of lists, counts, digests -/
theorem brought_eq {wd vt ws st sk ti fa ch ma : Nat → Int32} {rc b m L : Nat} (hc : 0 < m → ∀ i, vchg (ch (i % m))) (hN : L * m ≤ 200) (hb3 : b < 3) (hso : ∀ r, r < rc → seatOK (st r)) : brought wd vt ws st sk ti fa ch ma rc b m L = mbrI vt ti fa st sk (fun q => ch (q % m)) rc b m L := by
  unfold brought mbrI
  by_cases h : 0 < m ∧ freshI st ti rc (nI b) = nI 6
  · rw [if_pos h, if_pos h, (ring_eq (vt := vt) (hc h.1) hN hb3 hso).2.2.2]
  · rw [if_neg h, if_neg h]
theorem chM_eq {cs : Nat → Int32} {mn : Nat → Nat} {ch : Nat → Int32} {k : Nat} (hl : ∀ q, q < mn k → cs (12 * k + q) = ch q) (h0 : 0 < mn k) : chM cs mn k = fun q => ch (q % mn k) := by
  funext q
  exact hl _ (Nat.mod_lt _ h0)
theorem vmod {ch : Nat → Int32} {m : Nat} (h : ∀ i, i < m → vchg (ch i)) (h0 : 0 < m) : ∀ i, vchg (ch (i % m)) := fun i => h _ (Nat.mod_lt _ h0)
/-- what is kept of a list is what its course says -/
def LOK (c : Nat → Int32) (m ld : Nat) (rw_ fr ho : Int32) (dg : Nat → Int32) : Prop := ld = crM c m ∧ (∀ q, q < 6 → aboutI m (nI ld) rw_ fr dg ho q = mtI c m q) ∧ (∀ q, q < 6 → dg q = dofI (ddgI c) q (crM c m * m)) ∧ codI c (crM c m * m) = nI 1865
theorem crM_0 (c : Nat → Int32) : crM c 0 = 1 := by
  unfold crM
  rw [mcr, if_pos codI_0]
theorem LOK_0 (c : Nat → Int32) : LOK c 0 1 (nI 1) (nI 0) (nI 6) (fun _ => 0) := by
  refine ⟨(crM_0 c).symm, fun q hq => ?_, fun q _ => rfl, codI_0⟩
  have h5 : hmI (codI c (1 * 0)) = nI 6 := congrArg hmI (codI_0 (c := c)) |>.trans (by decide)
  have h2 : nwI (codI c) (crM c 0 * 0) = nI 1 := by
    show (if nwP (codI c) 0 then nI 0 + nI 1 else nI 0 + nI 0) = nI 1
    rw [if_pos (fun i hi => by omega)]
    rfl
  unfold aboutI mtI
  rw [h2, h5, crM_0]
  rcases (show q = 0 ∨ q = 1 ∨ q = 2 ∨ q = 3 ∨ q = 4 ∨ q = 5 by omega) with rfl | rfl | rfl | rfl | rfl | rfl <;> rfl
theorem LOK_crs {ch ma : Nat → Int32} {m : Nat} (hm : m ≤ 12) (hc : ∀ i, vchg (ch (i % m))) : LOK (fun q => ch (q % m)) m (crsI ch m ma).1 ((crsI ch m ma).2.1.2.2.2.2.1 + nI 1 - (crsI ch m ma).2.1.2.2.2.2.2) (frI (crsI ch m ma).2.1.1 (crsI ch m ma).2.1.2.2.2.2.1 (crsI ch m ma).2.1.2.2.2.2.2) (homeI (crs1 ch m ma).1.1) (crsI ch m ma).2.2 := by
  refine ⟨congrArg Prod.fst (crsI_eq hc), fun q _ => about_eq hm hc, fun q hq => ?_, crM_hit hc⟩
  rw [crsI_eq hc]
  exact lq_2 hc hq _
theorem LOK_cg {c c' : Nat → Int32} {m ld : Nat} {rw_ fr ho : Int32} {dg : Nat → Int32} (h : LOK c m ld rw_ fr ho dg) (e : 0 < m → c' = c) : LOK c' m ld rw_ fr ho dg := by
  by_cases h0 : 0 < m
  · rw [e h0]; exact h
  · obtain rfl : m = 0 := by omega
    obtain ⟨h1, h2, h3, h4⟩ := h
    obtain ⟨a1, a2, a3, a4⟩ := LOK_0 c
    obtain ⟨b1, b2, b3, b4⟩ := LOK_0 c'
    refine ⟨by rw [h1, crM_0, crM_0], fun q hq => ?_, fun q hq => ?_, b4⟩
    · rw [h2 q hq, ← a2 q hq, ← b2 q hq]
    · rw [h3 q hq, ← a3 q hq, ← b3 q hq]
theorem busy_sum {st : Nat → Int32} : ∀ rc, (∀ r, r < rc → seatOK (st r)) → cntN (fun r => bandI (st r) = nI 0) rc + cntN (fun r => bandI (st r) = nI 1) rc + cntN (fun r => bandI (st r) = nI 2) rc = cntN (fun r => ¬ st r < 0) rc := by
  intro rc
  induction rc with
  | zero => intro _; rfl
  | succ k ih =>
    intro hso
    have h1 := ih fun r hr => hso r (by omega)
    have hk := hso k (by omega)
    have b0 := so_band hk (b := 0) (by omega)
    have b1 := so_band hk (b := 1) (by omega)
    have b2 := so_band hk (b := 2) (by omega)
    rw [cnt_S, cnt_S, cnt_S, cnt_S]
    rcases hk with e | ⟨s, hs, e⟩
    · have hn : st k < 0 := by rw [e]; decide
      rw [if_neg (fun q => (b0.mp q).1 hn), if_neg (fun q => (b1.mp q).1 hn), if_neg (fun q => (b2.mp q).1 hn), if_neg (fun q => q hn)]
      exact h1
    · have hn : ¬ st k < 0 := by rw [e]; exact (so_dec s hs).2.1
      have hd : st k / nI 6 = nI (s / 6) := by rw [e]; exact (so_dec s hs).2.2.1
      rw [hd] at b0 b1 b2
      rw [if_pos hn]
      rcases (show s / 6 = 0 ∨ s / 6 = 1 ∨ s / 6 = 2 by omega) with z | z | z
      · rw [if_pos (b0.mpr ⟨hn, by rw [z]⟩), if_neg (fun q => by have := (gn_eq (by omega)).mp (b1.mp q).2; omega), if_neg (fun q => by have := (gn_eq (by omega)).mp (b2.mp q).2; omega)]
        omega
      · rw [if_neg (fun q => by have := (gn_eq (by omega)).mp (b0.mp q).2; omega), if_pos (b1.mpr ⟨hn, by rw [z]⟩), if_neg (fun q => by have := (gn_eq (by omega)).mp (b2.mp q).2; omega)]
        omega
      · rw [if_neg (fun q => by have := (gn_eq (by omega)).mp (b0.mp q).2; omega), if_neg (fun q => by have := (gn_eq (by omega)).mp (b1.mp q).2; omega), if_pos (b2.mpr ⟨hn, by rw [z]⟩)]
        omega
theorem mb_cnt (st : Nat → Int32) (rc : Nat) : mbI st rc = nI (cntN (fun r => ¬ st r < 0) rc) := cnt_neg (P := fun r => st r < 0) rc
theorem busy_eq {st : Nat → Int32} {rc : Nat} (hso : ∀ r, r < rc → seatOK (st r)) : busyI st rc = mbI st rc := by
  have e : ∀ b, cntI st rc (nI b) = nI (cntN (fun r => bandI (st r) = nI b) rc) := fun b => cnt_nat
  rw [mb_cnt, ← busy_sum rc hso]
  show ((nI 0 + cntI st rc (nI 0)) + cntI st rc (nI 1)) + cntI st rc (nI 2) = _
  rw [e, e, e, nI_add, nI_add, nI_add, Nat.zero_add]
theorem msk_eq {st sk : Nat → Int32} {rc : Nat} (hso : ∀ r, r < rc → seatOK (st r)) : mskI st sk rc = (mbI st rc, skillI st sk rc) := by
  have h : ∀ k, k ≤ rc → itr (fun r (s : Int32 × Int32) => if st r < 0 then s else (s.1 + nI 1, s.2 + sk r)) k (nI 0, nI 0) = (itr (mbP st) k (nI 0), itr (fun r s => if st r = -1 then s else s + sk r) k (nI 0)) := by
    intro k
    induction k with
    | zero => intro _; rfl
    | succ k ih =>
      intro hk
      show (if st k < 0 then itr _ k (nI 0, nI 0) else ((itr _ k (nI 0, nI 0)).1 + nI 1, (itr _ k (nI 0, nI 0)).2 + sk k)) = (mbP st k (itr (mbP st) k (nI 0)), if st k = -1 then itr _ k (nI 0) else itr _ k (nI 0) + sk k)
      rw [ih (by omega)]
      unfold mbP
      have hn := so_neg (hso k (by omega))
      by_cases q : st k < 0
      · rw [if_pos q, if_pos (hn.mp q), if_pos q, gn_a0]
      · rw [if_neg q, if_neg (fun z => q (hn.mpr z)), if_neg q]
  exact h rc (Nat.le_refl rc)
theorem skill_le {st sk : Nat → Int32} {rc : Nat} (h : ∀ r, r < rc → ∃ k, k ≤ 9 ∧ sk r = nI k) : ∃ a, a ≤ 9 * rc ∧ skillI st sk rc = nI a := by
  have g : ∀ k, k ≤ rc → ∃ a, a ≤ 9 * k ∧ itr (fun r s => if st r = -1 then s else s + sk r) k (nI 0) = nI a := by
    intro k
    induction k with
    | zero => intro _; exact ⟨0, Nat.le_refl 0, rfl⟩
    | succ k ih =>
      intro hk
      obtain ⟨a, h1, h2⟩ := ih (by omega)
      obtain ⟨z, h3, h4⟩ := h k (by omega)
      show ∃ a, a ≤ 9 * (k + 1) ∧ (if st k = -1 then itr _ k (nI 0) else itr _ k (nI 0) + sk k) = nI a
      rw [h2, h4]
      by_cases q : st k = -1
      · rw [if_pos q]; exact ⟨a, by omega, rfl⟩
      · rw [if_neg q]; exact ⟨a + z, by omega, nI_add a z⟩
  exact g rc (Nat.le_refl rc)
theorem nan_busy {st sk : Nat → Int32} {rc : Nat} (hrc : rc ≤ 20) (hso : ∀ r, r < rc → seatOK (st r)) (h : ∀ r, r < rc → ∃ k, k ≤ 9 ∧ sk r = nI k) : ¬ busyI st rc = 0 → vf_n64 (FP.ddiv (FP.i2d (skillI st sk rc)) (FP.i2d (busyI st rc))) := by
  obtain ⟨a, h1, h2⟩ := skill_le (st := st) h
  have h3 := cnt_le (P := fun r => ¬ st r < 0) rc
  rw [busy_eq hso, mb_cnt, h2]
  intro hz
  exact nan_ok (by omega) (by omega) fun e => hz (by rw [e]; rfl)
theorem count_eq {vt fa st : Nat → Int32} {rc mc : Nat} {dy tch frs : Int32} {q : Nat} (hso : ∀ r, r < rc → seatOK (st r)) : countT vt fa st rc mc dy tch frs q = mcI vt fa st rc mc dy tch frs q := by
  unfold countT mcI
  rw [busy_eq hso]
theorem digC_eq {vt fa st : Nat → Int32} {rc mc : Nat} {dy tch frs : Int32} {d : Int64} (hso : ∀ r, r < rc → seatOK (st r)) : digC vt fa st rc mc dy tch frs d = mdgC vt fa st rc mc dy tch frs d :=
  itr_cg (fun q d _ => by rw [count_eq hso]) 9 (Nat.le_refl 9)
def dbG (wd vt ws st : Nat → Int32) (rc : Nat) (d : Nat × Int64) : Nat × Int64 := (d.1 + 1, itr (fun q e => e * 31 + (bellT wd vt ws st rc (d.1 / 6) (d.1 % 6) q).toInt64) 3 d.2)
theorem itr_S {σ : Type} {f : Nat → σ → σ} {s : σ} (k : Nat) : itr f (k + 1) s = f k (itr f k s) := rfl
theorem digB_eq {wd vt ws st : Nat → Int32} {rc : Nat} {d : Int64} : digB wd vt ws st rc d = mdgB wd vt ws st rc d := by
  unfold digB mdgB
  have h := itr_flat (F := fun _ s => dbG wd vt ws st rc s) (m := 6) (s := ((0, d) : Nat × Int64)) 3
  have a1 : ∀ b k (e : Int64), k ≤ 6 → itr (fun _ s => dbG wd vt ws st rc s) k (b * 6, e) = (b * 6 + k, itr (fun k d => itr (fun q d => d * 31 + (bellT wd vt ws st rc b k q).toInt64) 3 d) k e) := by
    intro b k e
    induction k with
    | zero => intro _; rfl
    | succ k ih =>
      intro hk
      show dbG wd vt ws st rc (itr (fun _ s => dbG wd vt ws st rc s) k (b * 6, e)) = _
      rw [ih (by omega)]
      refine Prod.ext rfl ?_
      show itr (fun q e => e * 31 + (bellT wd vt ws st rc ((b * 6 + k) / 6) ((b * 6 + k) % 6) q).toInt64) 3 _ = _
      rw [show (b * 6 + k) / 6 = b by omega, show (b * 6 + k) % 6 = k by omega]
      rfl
  have a2 : ∀ b, b ≤ 3 → itr (fun _ s => itr (fun _ s => dbG wd vt ws st rc s) 6 s) b ((0, d) : Nat × Int64) = (b * 6, itr (fun b d => itr (fun k d => itr (fun q d => d * 31 + (bellT wd vt ws st rc b k q).toInt64) 3 d) 6 d) b d) := by
    intro b
    induction b with
    | zero => intro _; rfl
    | succ b ih =>
      intro hb
      show itr (fun _ s => dbG wd vt ws st rc s) 6 (itr (fun _ s => itr (fun _ s => dbG wd vt ws st rc s) 6 s) b ((0, d) : Nat × Int64)) = _
      rw [ih (by omega), a1 b 6 _ (Nat.le_refl 6)]
      rw [itr_S]
      exact Prod.ext (by show b * 6 + 6 = (b + 1) * 6; omega) rfl
  have a3 : ∀ p, itr (fun _ s => dbG wd vt ws st rc s) p ((0, d) : Nat × Int64) = (p, itr (fun p d => itr (fun q d => d * 31 + (bellT wd vt ws st rc (p / 6) (p % 6) q).toInt64) 3 d) p d) := by
    intro p
    induction p with
    | zero => rfl
    | succ p ih =>
      show dbG wd vt ws st rc (itr (fun _ s => dbG wd vt ws st rc s) p ((0, d) : Nat × Int64)) = _
      rw [ih]
      rfl
  have e1 := (a2 3 (Nat.le_refl 3)).symm.trans (h.trans (a3 18))
  exact congrArg Prod.snd e1
theorem digM_eq {ln lds : Nat → Nat} {rws frs hos : Nat → Int32} {chs dgs : Nat → Nat → Int32} {cs : Nat → Int32} {mc : Nat} {d : Int64} (hl : ∀ k, k < mc → LOK (chM cs ln k) (ln k) (lds k) (rws k) (frs k) (hos k) (dgs k)) (hch : ∀ k, k < mc → ∀ i, i < ln k → chs k i = cs (12 * k + i)) : digM ln lds rws frs hos chs dgs mc d = mdgM cs ln mc d := by
  refine itr_cg (fun k d hk => ?_) mc (Nat.le_refl mc)
  obtain ⟨h1, h2, h3, h4⟩ := hl k hk
  have e1 : itr (fun q d => d * 31 + (aboutI (ln k) (nI (lds k)) (rws k) (frs k) (dgs k) (hos k) q).toInt64) 6 d = itr (fun q d => d * 31 + (mtI (chM cs ln k) (ln k) q).toInt64) 6 d := itr_cg (fun q d hq => by rw [h2 q hq]) 6 (Nat.le_refl 6)
  have e2 : ∀ x, itr (fun i d => d * 31 + (chs k i).toInt64) (ln k) x = itr (fun i d => d * 31 + (cs (12 * k + i)).toInt64) (ln k) x := fun x => itr_cg (fun i d hi => by rw [hch k hk i hi]) (ln k) (Nat.le_refl _)
  have e3 : ∀ x, itr (fun b d => d * 31 + (dgs k b).toInt64) 6 x = itr (fun b d => d * 31 + (dofI (ddgI (chM cs ln k)) b (crM (chM cs ln k) (ln k) * ln k)).toInt64) 6 x := fun x => itr_cg (fun b d hb => by rw [h3 b hb]) 6 (Nat.le_refl 6)
  rw [e1, e2, e3]
theorem adv_eq {wd vt ws st sk ti fa cs : Nat → Int32} {rc b mc : Nat} {chs : Nat → Nat → Int32} {ln lds : Nat → Nat} (hb3 : b < 3) (hso : ∀ r, r < rc → seatOK (st r)) (hln : ∀ k, k < mc → ln k ≤ 12) (hlk : ∀ k, k < mc → ∀ q, q < ln k → cs (12 * k + q) = chs k q) (hv : ∀ k, k < mc → ∀ i, i < ln k → vchg (chs k i)) (hld : ∀ k, k < mc → lds k = crM (chM cs ln k) (ln k)) : itr (advP wd vt ws st sk ti fa rc b chs ln lds) mc (-1, nI 0) = itr (madP vt ti fa st sk cs ln rc b) mc (-1, nI 0) := by
  refine itr_cg (fun k s hk => ?_) mc (Nat.le_refl mc)
  have e : brought wd vt ws st sk ti fa (chs k) ma0 rc b (ln k) (lds k) = mbrI vt ti fa st sk (chM cs ln k) rc b (ln k) (crM (chM cs ln k) (ln k)) := by
    have hN := Nat.mul_le_mul (crM_le (chM cs ln k) (ln k)).2 (hln k hk)
    rw [hld k hk, brought_eq (fun h0 => vmod (hv k hk) h0) (by omega) hb3 hso]
    by_cases h0 : 0 < ln k
    · rw [chM_eq (hlk k hk) h0]
    · unfold mbrI
      rw [if_neg (fun q => h0 q.1), if_neg (fun q => h0 q.1)]
  unfold advP madP
  rw [e]
