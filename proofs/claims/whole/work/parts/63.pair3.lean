set_option maxRecDepth 20000 in
theorem pr_mean {l : Launch} {K : gw_K} (hst : l.stackTraces = false) {h : gw_H} {n : Nat} {thr : Int32} {o : Nat → Int64} (hI : INV h n thr o) : ∃ (w : UInt64) (fs : List Value), h 0 = oB 3 fs ∧ ∃ (P : Option Value → gw_H → Nat → Prop), Ctr l K mX3_mean [.ref 0] h n 0 0 P PX0 ∧ ∀ rv h' n', P rv h' n' → rv = some (.double w) ∧ n' = n ∧ ∃ (fs : List Value), h' 40 = oB 5 fs ∧ ∃ (P2 : Option Value → gw_H → Nat → Prop), Ctr l K mX5_mean [.ref 40] h' n 0 0 P2 PX0 ∧ ∀ rv2 h'' n'', P2 rv2 h'' n'' → rv2 = some (.double w) ∧ n'' = n ∧ INV h'' n'' (nI 0) o := by
  obtain ⟨hn62, h61, wd, sk, vt, ti, fa, st, ws, rc, dy, mc, tch, frs, ln, lds, rws, frx, hos, chs, dgs, cs, hC, hX, hM, hG⟩ := hI
  obtain ⟨r0, f0, f1, f2, f3, f4, f5, ⟨tf, f6⟩, f7, f8, ⟨owd, osk, ovt, oti, ofa, otf, ost, ows, orc, ody, t0, t1, t2, t3, t4, t5, t6, t7, t8⟩, ⟨pl, mv, ma, sn, cm, rr, u0, u1, u2, u3, u4⟩, fl, fli⟩ := id hC
  obtain ⟨len, ady, co, dg, rw_, go, we, avt, ati, afa, ast, m0, q46, q47, q48, q49, q50, q56, q57, q58, q59, q60⟩ := id hX
  obtain ⟨m41, m42, m43, m44, m45, s0, s1, s2, s3, s4⟩ := id hM
  obtain ⟨hrc, hm5, hsi, hvp, hsk, hln, hlk, hv, hlo⟩ := id hG
  have hso : ∀ r, r < rc → seatOK (st r) := fun r hr => (hsi r hr).1
  have hl : ∀ k c, k < mc → c = 25 + 3 * k → h c = oB 0 [.ref (c + 1), .ref (c + 2), .int (nI (ln k)), .int (nI (lds k)), .int (rws k), .int (frx k), .int (hos k)] ∧ h (c + 1) = aI 12 (chs k) ∧ h (c + 2) = aI 6 (dgs k) := fun k c hk hc => fli k c (by omega) hc
  have hmc : ∀ m, m < mc → ln m ≤ 12 ∧ codI (chM cs ln m) (crM (chM cs ln m) (ln m) * ln m) = nI 1865 := fun m hm => ⟨hln m (by omega), (hlo m (by omega)).2.2.2⟩
  have hbz := busy_eq hso
  have hms := msk_eq (sk := sk) hso
  refine ⟨(if busyI st rc = 0 then 0 else FP.ddiv (FP.i2d (skillI st sk rc)) (FP.i2d (busyI st rc))), _, r0, _, kX3_mean hst r0 f0 f7 f2 (hrc) (nan_busy hrc hso hsk), ?_⟩
  rintro rv h' n' ⟨rfl, rfl, rfl⟩
  have hnn : ¬ (mskI st sk rc).1 = 0 → vf_n64 (FP.ddiv (FP.i2d (mskI st sk rc).2) (FP.i2d (mskI st sk rc).1)) := by
    rw [hms, ← hbz]
    exact nan_busy hrc hso hsk
  refine ⟨rfl, rfl, _, m0, _, kX5_mean hst m0 m41 m42 m43 m44 m45 q46 q47 q48 q49 q50 s0 s1 s2 s3 s4 q56 q57 q58 q59 q60 (hn62) (hrc) (hnn), ?_⟩
  intro rv2 h'' n'' hp
  have hf := hp.fin hC (fun _ _ => rfl) hM h61 hG hn62
  refine ⟨?_, hp.2.1.symm, hf⟩
  rw [← hp.1, hms, ← hbz]
set_option maxRecDepth 20000 in
theorem pr_digest {l : Launch} {K : gw_K} (hst : l.stackTraces = false) {h : gw_H} {n : Nat} {thr : Int32} {o : Nat → Int64} (hI : INV h n thr o) : ∃ (w : Int64) (fs : List Value), h 0 = oB 3 fs ∧ ∃ (P : Option Value → gw_H → Nat → Prop), Ctr l K mX3_digest [.ref 0] h n 0 0 P PX0 ∧ ∀ rv h' n', P rv h' n' → rv = some (.long w) ∧ n' = n ∧ ∃ (fs : List Value), h' 40 = oB 5 fs ∧ ∃ (mc ms : Nat) (P2 : Option Value → gw_H → Nat → Prop), mc ≤ 199 ∧ ms ≤ 1541 ∧ Ctr l K mX5_digest [.ref 40] h' n mc ms P2 PX0 ∧ ∀ rv2 h'' n'', P2 rv2 h'' n'' → rv2 = some (.long w) ∧ n ≤ n'' ∧ INV h'' n'' (nI 0) o := by
  obtain ⟨hn62, h61, wd, sk, vt, ti, fa, st, ws, rc, dy, mc, tch, frs, ln, lds, rws, frx, hos, chs, dgs, cs, hC, hX, hM, hG⟩ := hI
  obtain ⟨r0, f0, f1, f2, f3, f4, f5, ⟨tf, f6⟩, f7, f8, ⟨owd, osk, ovt, oti, ofa, otf, ost, ows, orc, ody, t0, t1, t2, t3, t4, t5, t6, t7, t8⟩, ⟨pl, mv, ma, sn, cm, rr, u0, u1, u2, u3, u4⟩, fl, fli⟩ := id hC
  obtain ⟨len, ady, co, dg, rw_, go, we, avt, ati, afa, ast, m0, q46, q47, q48, q49, q50, q56, q57, q58, q59, q60⟩ := id hX
  obtain ⟨m41, m42, m43, m44, m45, s0, s1, s2, s3, s4⟩ := id hM
  obtain ⟨hrc, hm5, hsi, hvp, hsk, hln, hlk, hv, hlo⟩ := id hG
  have hso : ∀ r, r < rc → seatOK (st r) := fun r hr => (hsi r hr).1
  have hl : ∀ k c, k < mc → c = 25 + 3 * k → h c = oB 0 [.ref (c + 1), .ref (c + 2), .int (nI (ln k)), .int (nI (lds k)), .int (rws k), .int (frx k), .int (hos k)] ∧ h (c + 1) = aI 12 (chs k) ∧ h (c + 2) = aI 6 (dgs k) := fun k c hk hc => fli k c (by omega) hc
  have hmc : ∀ m, m < mc → ln m ≤ 12 ∧ codI (chM cs ln m) (crM (chM cs ln m) (ln m) * ln m) = nI 1865 := fun m hm => ⟨hln m (by omega), (hlo m (by omega)).2.2.2⟩
  refine ⟨(digM ln lds rws frx hos chs dgs mc (digB wd vt ws st rc (digR wd sk vt ti fa st rc (digC vt fa st rc mc dy tch frs 1237)))), _, r0, _, kX3_digest hst r0 f0 f1 f2 f3 f4 f5 f7 f8 t0 t1 t2 t3 t4 t5 t6 t7 t8 u0 u1 u2 u3 u4 fl (hl) (hm5) (fun k hk => hln k (by omega)) (hrc), ?_⟩
  rintro rv h' n' ⟨rfl, rfl, qK, qT, qU⟩
  have hC2 := hC.tr (fun j hj => qK j (by omega)) qT qU
  have tr : ∀ j, 40 ≤ j → j ≤ 61 → h' j = h j := fun j h1 h2 => qK j (by omega)
  have hM3 := hM.tr (h' := h') (fun j hj => tr j (by omega) (by omega))
  refine ⟨rfl, rfl, _, (tr 40 (by decide) (by decide)).trans m0, 9 + 8 * rc + 6 * mc, 81 + 64 * rc + 36 * mc, _, by omega, by omega, kX5_digest hst ((tr 40 (by decide) (by decide)).trans m0) ((tr 41 (by decide) (by decide)).trans m41) ((tr 42 (by decide) (by decide)).trans m42) ((tr 43 (by decide) (by decide)).trans m43) ((tr 44 (by decide) (by decide)).trans m44) ((tr 45 (by decide) (by decide)).trans m45) ((tr 46 (by decide) (by decide)).trans q46) ((tr 47 (by decide) (by decide)).trans q47) ((tr 48 (by decide) (by decide)).trans q48) ((tr 49 (by decide) (by decide)).trans q49) ((tr 50 (by decide) (by decide)).trans q50) ((tr 51 (by decide) (by decide)).trans s0) ((tr (51 + 1) (by decide) (by decide)).trans s1) ((tr (51 + 2) (by decide) (by decide)).trans s2) ((tr (51 + 3) (by decide) (by decide)).trans s3) ((tr (51 + 4) (by decide) (by decide)).trans s4) ((tr 56 (by decide) (by decide)).trans q56) ((tr (56 + 1) (by decide) (by decide)).trans q57) ((tr (56 + 2) (by decide) (by decide)).trans q58) ((tr (56 + 3) (by decide) (by decide)).trans q59) ((tr (56 + 4) (by decide) (by decide)).trans q60) (hn62) (hm5) (hrc) (hsi) (hvp) (hmc), ?_⟩
  intro rv2 h'' n'' hp
  have hf := hp.fin hC2 (fun _ _ => rfl) hM3 ((tr 61 (by decide) (by decide)).trans h61) hG (by omega)
  refine ⟨?_, by have := hp.2.1; omega, hf⟩
  rw [← hp.1, digC_eq hso, digB_eq, digM_eq (fun k hk => hlo k (by omega)) (fun k hk i hi => (hlk k (by omega) i hi).symm)]
