set_option maxRecDepth 20000 in
theorem kX3_ringer_w {l : Launch} {K : gw_K} (hst : l.stackTraces = false) {rc mc n : Nat} {dy tch frs : Int32} {h : gw_H} {a b d : Int32} (r0 : h 0 = (oB 3 [.ref 1, .ref 10, .ref 19, .ref 24, .int (nI mc), .int tch, .int frs])) (f0 : h 1 = (oB 2 [.ref (1 + 1), .ref (1 + 2), .ref (1 + 3), .ref (1 + 4), .ref (1 + 5), .ref (1 + 6), .ref (1 + 7), .ref (1 + 8), .int (nI rc), .int dy])) (hz : a < 0 ∨ nI 4 ≤ a) : Ctr l K mX3_ringer [.ref 0, .int a, .int b, .int d] h n 1 6 (fun _ _ _ => False) (PXQ "java/lang/IndexOutOfBoundsException" h n) := by
  refine Ctr.of hst pn_X3_ringer (Nat.le_of_ble_eq_true rfl) (fun X hX hr hE => ?_)
  have hX : FX l K X cX3_ringer RX3 7 112 1 6 := hX
  show GW X 0 [some (.ref 0), some (.int a), some (.int b), some (.int d)] [] h n 0 0
  refine g_iload_n hX dX3_ringer_0 rfl rfl ?_
  refine g_iconst (v := (nI 4)) hX dX3_ringer_1 (by decide) ?_
  refine g_callS (As := [.int a, .int (nI 4)]) hX dX3_ringer_2 cb_X3_requireIndex ml_X3_33 st_X3_requireIndex rfl rfl (kX3_requireIndex_x hst (hz)) (Nat.le_of_ble_eq_true rfl) (Nat.le_of_ble_eq_true rfl) (by omega) (by omega) (Nat.le_of_ble_eq_true rfl) ?_ ?_
  · refine px ?_
    refine g_out hX hr hE.1 (by omega) (by omega) ?_
    exact ⟨rfl, rfl, rfl⟩
  · exact fun _ _ _ _ h => h.elim
set_option maxRecDepth 20000 in
theorem kX3_ringer_s {l : Launch} {K : gw_K} (hst : l.stackTraces = false) {rc mc n : Nat} {dy tch frs : Int32} {h : gw_H} {a : Nat} {b d : Int32} (r0 : h 0 = (oB 3 [.ref 1, .ref 10, .ref 19, .ref 24, .int (nI mc), .int tch, .int frs])) (f0 : h 1 = (oB 2 [.ref (1 + 1), .ref (1 + 2), .ref (1 + 3), .ref (1 + 4), .ref (1 + 5), .ref (1 + 6), .ref (1 + 7), .ref (1 + 8), .int (nI rc), .int dy])) (ha : a < 4) (hz : b < nI 0 ∨ nI 9 < b) : Ctr l K mX3_ringer [.ref 0, .int (nI a), .int b, .int d] h n 1 6 (fun _ _ _ => False) (PXQ "java/lang/IllegalArgumentException" h n) := by
  refine Ctr.of hst pn_X3_ringer (Nat.le_of_ble_eq_true rfl) (fun X hX hr hE => ?_)
  have hX : FX l K X cX3_ringer RX3 7 112 1 6 := hX
  show GW X 0 [some (.ref 0), some (.int (nI a)), some (.int b), some (.int d)] [] h n 0 0
  refine g_iload_n hX dX3_ringer_0 rfl rfl ?_
  refine g_iconst (v := (nI 4)) hX dX3_ringer_1 (by decide) ?_
  refine g_callS (As := [.int (nI a), .int (nI 4)]) hX dX3_ringer_2 cb_X3_requireIndex ml_X3_33 st_X3_requireIndex rfl rfl (kX3_requireIndex hst (gn_okI ha (by omega))) (Nat.le_of_ble_eq_true rfl) (Nat.le_of_ble_eq_true rfl) (by omega) (by omega) (Nat.le_of_ble_eq_true rfl) GX.no (pq ?_)
  show GW X 5 [some (.ref 0), some (.int (nI a)), some (.int b), some (.int d)] [] h n 0 0
  refine g_iload_n hX dX3_ringer_5 rfl rfl ?_
  refine g_iconst (v := (nI 0)) hX dX3_ringer_6 (by decide) ?_
  refine g_bipush (v := (nI 9)) hX dX3_ringer_7 (by decide) ?_
  refine g_callS (As := [.int b, .int (nI 0), .int (nI 9)]) hX dX3_ringer_9 cb_X3_requireWithin ml_X3_37 st_X3_requireWithin rfl rfl (kX3_requireWithin_x hst (hz)) (Nat.le_of_ble_eq_true rfl) (Nat.le_of_ble_eq_true rfl) (by omega) (by omega) (Nat.le_of_ble_eq_true rfl) ?_ ?_
  · refine px ?_
    refine g_out hX hr hE.1 (by omega) (by omega) ?_
    exact ⟨rfl, rfl, rfl⟩
  · exact fun _ _ _ _ h => h.elim
set_option maxRecDepth 20000 in
theorem kX3_ringer_v {l : Launch} {K : gw_K} (hst : l.stackTraces = false) {rc mc n : Nat} {dy tch frs : Int32} {h : gw_H} {a : Nat} {b d : Int32} (r0 : h 0 = (oB 3 [.ref 1, .ref 10, .ref 19, .ref 24, .int (nI mc), .int tch, .int frs])) (f0 : h 1 = (oB 2 [.ref (1 + 1), .ref (1 + 2), .ref (1 + 3), .ref (1 + 4), .ref (1 + 5), .ref (1 + 6), .ref (1 + 7), .ref (1 + 8), .int (nI rc), .int dy])) (ha : a < 4) (hy : ¬ (b < nI 0 ∨ nI 9 < b)) (hz : d < nI 0 ∨ nI 99 < d) : Ctr l K mX3_ringer [.ref 0, .int (nI a), .int b, .int d] h n 1 6 (fun _ _ _ => False) (PXQ "java/lang/IllegalArgumentException" h n) := by
  refine Ctr.of hst pn_X3_ringer (Nat.le_of_ble_eq_true rfl) (fun X hX hr hE => ?_)
  have hX : FX l K X cX3_ringer RX3 7 112 1 6 := hX
  show GW X 0 [some (.ref 0), some (.int (nI a)), some (.int b), some (.int d)] [] h n 0 0
  refine g_iload_n hX dX3_ringer_0 rfl rfl ?_
  refine g_iconst (v := (nI 4)) hX dX3_ringer_1 (by decide) ?_
  refine g_callS (As := [.int (nI a), .int (nI 4)]) hX dX3_ringer_2 cb_X3_requireIndex ml_X3_33 st_X3_requireIndex rfl rfl (kX3_requireIndex hst (gn_okI ha (by omega))) (Nat.le_of_ble_eq_true rfl) (Nat.le_of_ble_eq_true rfl) (by omega) (by omega) (Nat.le_of_ble_eq_true rfl) GX.no (pq ?_)
  show GW X 5 [some (.ref 0), some (.int (nI a)), some (.int b), some (.int d)] [] h n 0 0
  refine g_iload_n hX dX3_ringer_5 rfl rfl ?_
  refine g_iconst (v := (nI 0)) hX dX3_ringer_6 (by decide) ?_
  refine g_bipush (v := (nI 9)) hX dX3_ringer_7 (by decide) ?_
  refine g_callS (As := [.int b, .int (nI 0), .int (nI 9)]) hX dX3_ringer_9 cb_X3_requireWithin ml_X3_37 st_X3_requireWithin rfl rfl (kX3_requireWithin hst (hy)) (Nat.le_of_ble_eq_true rfl) (Nat.le_of_ble_eq_true rfl) (by omega) (by omega) (Nat.le_of_ble_eq_true rfl) GX.no (pq ?_)
  show GW X 12 [some (.ref 0), some (.int (nI a)), some (.int b), some (.int d)] [] h n 0 0
  refine g_iload_n hX dX3_ringer_12 rfl rfl ?_
  refine g_iconst (v := (nI 0)) hX dX3_ringer_13 (by decide) ?_
  refine g_bipush (v := (nI 99)) hX dX3_ringer_14 (by decide) ?_
  refine g_callS (As := [.int d, .int (nI 0), .int (nI 99)]) hX dX3_ringer_16 cb_X3_requireWithin ml_X3_37 st_X3_requireWithin rfl rfl (kX3_requireWithin_x hst (hz)) (Nat.le_of_ble_eq_true rfl) (Nat.le_of_ble_eq_true rfl) (by omega) (by omega) (Nat.le_of_ble_eq_true rfl) ?_ ?_
  · refine px ?_
    refine g_out hX hr hE.1 (by omega) (by omega) ?_
    exact ⟨rfl, rfl, rfl⟩
  · exact fun _ _ _ _ h => h.elim
set_option maxRecDepth 20000 in
theorem kX3_ringer_f {l : Launch} {K : gw_K} (hst : l.stackTraces = false) {rc mc n : Nat} {dy tch frs : Int32} {h : gw_H} {a : Nat} {b d : Int32} (r0 : h 0 = (oB 3 [.ref 1, .ref 10, .ref 19, .ref 24, .int (nI mc), .int tch, .int frs])) (f0 : h 1 = (oB 2 [.ref (1 + 1), .ref (1 + 2), .ref (1 + 3), .ref (1 + 4), .ref (1 + 5), .ref (1 + 6), .ref (1 + 7), .ref (1 + 8), .int (nI rc), .int dy])) (ha : a < 4) (hy : ¬ (b < nI 0 ∨ nI 9 < b)) (hz : ¬ (d < nI 0 ∨ nI 99 < d)) (hrc : rc = 20) : Ctr l K mX3_ringer [.ref 0, .int (nI a), .int b, .int d] h n 1 6 (fun _ _ _ => False) (PXQ "java/lang/IllegalStateException" h n) := by
  refine Ctr.of hst pn_X3_ringer (Nat.le_of_ble_eq_true rfl) (fun X hX hr hE => ?_)
  have hX : FX l K X cX3_ringer RX3 7 112 1 6 := hX
  show GW X 0 [some (.ref 0), some (.int (nI a)), some (.int b), some (.int d)] [] h n 0 0
  refine g_iload_n hX dX3_ringer_0 rfl rfl ?_
  refine g_iconst (v := (nI 4)) hX dX3_ringer_1 (by decide) ?_
  refine g_callS (As := [.int (nI a), .int (nI 4)]) hX dX3_ringer_2 cb_X3_requireIndex ml_X3_33 st_X3_requireIndex rfl rfl (kX3_requireIndex hst (gn_okI ha (by omega))) (Nat.le_of_ble_eq_true rfl) (Nat.le_of_ble_eq_true rfl) (by omega) (by omega) (Nat.le_of_ble_eq_true rfl) GX.no (pq ?_)
  show GW X 5 [some (.ref 0), some (.int (nI a)), some (.int b), some (.int d)] [] h n 0 0
  refine g_iload_n hX dX3_ringer_5 rfl rfl ?_
  refine g_iconst (v := (nI 0)) hX dX3_ringer_6 (by decide) ?_
  refine g_bipush (v := (nI 9)) hX dX3_ringer_7 (by decide) ?_
  refine g_callS (As := [.int b, .int (nI 0), .int (nI 9)]) hX dX3_ringer_9 cb_X3_requireWithin ml_X3_37 st_X3_requireWithin rfl rfl (kX3_requireWithin hst (hy)) (Nat.le_of_ble_eq_true rfl) (Nat.le_of_ble_eq_true rfl) (by omega) (by omega) (Nat.le_of_ble_eq_true rfl) GX.no (pq ?_)
  show GW X 12 [some (.ref 0), some (.int (nI a)), some (.int b), some (.int d)] [] h n 0 0
  refine g_iload_n hX dX3_ringer_12 rfl rfl ?_
  refine g_iconst (v := (nI 0)) hX dX3_ringer_13 (by decide) ?_
  refine g_bipush (v := (nI 99)) hX dX3_ringer_14 (by decide) ?_
  refine g_callS (As := [.int d, .int (nI 0), .int (nI 99)]) hX dX3_ringer_16 cb_X3_requireWithin ml_X3_37 st_X3_requireWithin rfl rfl (kX3_requireWithin hst (hz)) (Nat.le_of_ble_eq_true rfl) (Nat.le_of_ble_eq_true rfl) (by omega) (by omega) (Nat.le_of_ble_eq_true rfl) GX.no (pq ?_)
  show GW X 19 [some (.ref 0), some (.int (nI a)), some (.int b), some (.int d)] [] h n 0 0
  refine g_aload_n hX dX3_ringer_19 rfl rfl ?_
  refine g_getf hX dX3_ringer_20 fl_X3_12 (r0) rfl ?_
  refine g_getf hX dX3_ringer_23 fl_X3_41 (f0) rfl ?_
  refine g_bipush (v := (nI 20)) hX dX3_ringer_26 (by decide) ?_
  refine g_icmp_ltN (tgt := 41) hX dX3_ringer_28 (by decide) (by omega) (fun c1 => absurd c1 (by omega)) (fun c1 => ?_)
  refine g_throwS hX hr hE.1 ts_45_47_49 dX3_ringer_31 dX3_ringer_34 dX3_ringer_35 dX3_ringer_37 dX3_ringer_40 (Nat.le_of_ble_eq_true rfl) (Nat.le_of_ble_eq_true rfl) (by omega) (by omega) ?_
  exact ⟨rfl, rfl, rfl⟩
set_option maxRecDepth 20000 in
theorem kX3_ringer {l : Launch} {K : gw_K} (hst : l.stackTraces = false) {rc mc n : Nat} {dy tch frs : Int32} {h : gw_H} {wd sk vt st : Nat → Int32} {a : Nat} {b d : Int32} (r0 : h 0 = (oB 3 [.ref 1, .ref 10, .ref 19, .ref 24, .int (nI mc), .int tch, .int frs])) (f0 : h 1 = (oB 2 [.ref (1 + 1), .ref (1 + 2), .ref (1 + 3), .ref (1 + 4), .ref (1 + 5), .ref (1 + 6), .ref (1 + 7), .ref (1 + 8), .int (nI rc), .int dy])) (fwd : h (1 + 1) = (aI 20 wd)) (fsk : h (1 + 2) = (aI 20 sk)) (fvt : h (1 + 3) = (aI 20 vt)) (fst : h (1 + 7) = (aI 20 st)) (ha : a < 4) (hy : ¬ (b < nI 0 ∨ nI 9 < b)) (hz : ¬ (d < nI 0 ∨ nI 99 < d)) (hrc : rc < 20) : Ctr l K mX3_ringer [.ref 0, .int (nI a), .int b, .int d] h n 1 6 (PQ (some (.int (nI rc))) (hs (hs (hs (hs (hs h 1 (oB 2 [.ref (1 + 1), .ref (1 + 2), .ref (1 + 3), .ref (1 + 4), .ref (1 + 5), .ref (1 + 6), .ref (1 + 7), .ref (1 + 8), .int (nI (rc + 1)), .int dy])) (1 + 1) (aI 20 (upd wd rc (nI a)))) (1 + 2) (aI 20 (upd sk rc b))) (1 + 3) (aI 20 (upd vt rc d))) (1 + 7) (aI 20 (upd st rc (-1)))) n) (PX0) := by
  refine Ctr.of hst pn_X3_ringer (Nat.le_of_ble_eq_true rfl) (fun X hX hr hE => ?_)
  have hX : FX l K X cX3_ringer RX3 7 112 1 6 := hX
  show GW X 0 [some (.ref 0), some (.int (nI a)), some (.int b), some (.int d)] [] h n 0 0
  refine g_iload_n hX dX3_ringer_0 rfl rfl ?_
  refine g_iconst (v := (nI 4)) hX dX3_ringer_1 (by decide) ?_
  refine g_callS (As := [.int (nI a), .int (nI 4)]) hX dX3_ringer_2 cb_X3_requireIndex ml_X3_33 st_X3_requireIndex rfl rfl (kX3_requireIndex hst (gn_okI ha (by omega))) (Nat.le_of_ble_eq_true rfl) (Nat.le_of_ble_eq_true rfl) (by omega) (by omega) (Nat.le_of_ble_eq_true rfl) GX.no (pq ?_)
  show GW X 5 [some (.ref 0), some (.int (nI a)), some (.int b), some (.int d)] [] h n 0 0
  refine g_iload_n hX dX3_ringer_5 rfl rfl ?_
  refine g_iconst (v := (nI 0)) hX dX3_ringer_6 (by decide) ?_
  refine g_bipush (v := (nI 9)) hX dX3_ringer_7 (by decide) ?_
  refine g_callS (As := [.int b, .int (nI 0), .int (nI 9)]) hX dX3_ringer_9 cb_X3_requireWithin ml_X3_37 st_X3_requireWithin rfl rfl (kX3_requireWithin hst (hy)) (Nat.le_of_ble_eq_true rfl) (Nat.le_of_ble_eq_true rfl) (by omega) (by omega) (Nat.le_of_ble_eq_true rfl) GX.no (pq ?_)
  show GW X 12 [some (.ref 0), some (.int (nI a)), some (.int b), some (.int d)] [] h n 0 0
  refine g_iload_n hX dX3_ringer_12 rfl rfl ?_
  refine g_iconst (v := (nI 0)) hX dX3_ringer_13 (by decide) ?_
  refine g_bipush (v := (nI 99)) hX dX3_ringer_14 (by decide) ?_
  refine g_callS (As := [.int d, .int (nI 0), .int (nI 99)]) hX dX3_ringer_16 cb_X3_requireWithin ml_X3_37 st_X3_requireWithin rfl rfl (kX3_requireWithin hst (hz)) (Nat.le_of_ble_eq_true rfl) (Nat.le_of_ble_eq_true rfl) (by omega) (by omega) (Nat.le_of_ble_eq_true rfl) GX.no (pq ?_)
  show GW X 19 [some (.ref 0), some (.int (nI a)), some (.int b), some (.int d)] [] h n 0 0
  refine g_aload_n hX dX3_ringer_19 rfl rfl ?_
  refine g_getf hX dX3_ringer_20 fl_X3_12 (r0) rfl ?_
  refine g_getf hX dX3_ringer_23 fl_X3_41 (f0) rfl ?_
  refine g_bipush (v := (nI 20)) hX dX3_ringer_26 (by decide) ?_
  refine g_icmp_ltN (tgt := 41) hX dX3_ringer_28 (by decide) (by omega) (fun c1 => ?_) (fun c1 => absurd c1 (by omega))
  refine g_aload_n hX dX3_ringer_41 rfl rfl ?_
  refine g_getf hX dX3_ringer_42 fl_X3_12 (r0) rfl ?_
  refine g_iload_n hX dX3_ringer_45 rfl rfl ?_
  refine g_iload_n hX dX3_ringer_46 rfl rfl ?_
  refine g_iload_n hX dX3_ringer_47 rfl rfl ?_
  refine g_callV (As := [.int (nI a), .int b, .int d]) hX dX3_ringer_48 cb_X2_enrol ml_X3_52 im_X2_enrol se_X2_enrol rfl rfl (f0) ⟨_, rfl, rfl⟩ (kX2_enrol hst (f0) (fwd) (fsk) (fvt) (fst) (by omega)) (Nat.le_of_ble_eq_true rfl) (Nat.le_of_ble_eq_true rfl) (by omega) (by omega) (Nat.le_of_ble_eq_true rfl) GX.no (pq ?_)
  show GW X 51 [some (.ref 0), some (.int (nI a)), some (.int b), some (.int d)] [.int (nI rc)] (hs (hs (hs (hs (hs h (1 + 1) (aI 20 (upd wd rc (nI a)))) (1 + 2) (aI 20 (upd sk rc b))) (1 + 3) (aI 20 (upd vt rc d))) (1 + 7) (aI 20 (upd st rc (-1)))) 1 (oB 2 [.ref (1 + 1), .ref (1 + 2), .ref (1 + 3), .ref (1 + 4), .ref (1 + 5), .ref (1 + 6), .ref (1 + 7), .ref (1 + 8), .int (nI (rc + 1)), .int dy])) n 0 0
  refine g_ireturn hX hr dX3_ringer_51 (by omega) (by omega)  ?_
  exact ⟨rfl, (by first | (rw [hs_cm (k := 1) (j := 1 + 7) _ _ _ (by omega), hs_cm (k := 1) (j := 1 + 3) _ _ _ (by omega), hs_cm (k := 1) (j := 1 + 2) _ _ _ (by omega), hs_cm (k := 1) (j := 1 + 1) _ _ _ (by omega)]; done) | (rw [hs_cm (k := 1) (j := 1 + 7) _ _ _ (by omega), hs_cm (k := 1) (j := 1 + 3) _ _ _ (by omega), hs_cm (k := 1) (j := 1 + 2) _ _ _ (by omega), hs_cm (k := 1) (j := 1 + 1) _ _ _ (by omega)]; rfl)), rfl⟩
set_option maxRecDepth 20000 in
theorem kX3_vote_r {l : Launch} {K : gw_K} (hst : l.stackTraces = false) {rc mc n : Nat} {dy tch frs : Int32} {h : gw_H} {a b : Int32} (r0 : h 0 = (oB 3 [.ref 1, .ref 10, .ref 19, .ref 24, .int (nI mc), .int tch, .int frs])) (f0 : h 1 = (oB 2 [.ref (1 + 1), .ref (1 + 2), .ref (1 + 3), .ref (1 + 4), .ref (1 + 5), .ref (1 + 6), .ref (1 + 7), .ref (1 + 8), .int (nI rc), .int dy])) (hz : a < 0 ∨ nI rc ≤ a) : Ctr l K mX3_vote [.ref 0, .int a, .int b] h n 1 6 (fun _ _ _ => False) (PXQ "java/lang/IndexOutOfBoundsException" h n) := by
  refine Ctr.of hst pn_X3_vote (Nat.le_of_ble_eq_true rfl) (fun X hX hr hE => ?_)
  have hX : FX l K X cX3_vote RX3 7 112 1 6 := hX
  show GW X 0 [some (.ref 0), some (.int a), some (.int b)] [] h n 0 0
  refine g_iload_n hX dX3_vote_0 rfl rfl ?_
  refine g_aload_n hX dX3_vote_1 rfl rfl ?_
  refine g_getf hX dX3_vote_2 fl_X3_12 (r0) rfl ?_
  refine g_getf hX dX3_vote_5 fl_X3_41 (f0) rfl ?_
  refine g_callS (As := [.int a, .int (nI rc)]) hX dX3_vote_8 cb_X3_requireIndex ml_X3_33 st_X3_requireIndex rfl rfl (kX3_requireIndex_x hst (hz)) (Nat.le_of_ble_eq_true rfl) (Nat.le_of_ble_eq_true rfl) (by omega) (by omega) (Nat.le_of_ble_eq_true rfl) ?_ ?_
  · refine px ?_
    refine g_out hX hr hE.1 (by omega) (by omega) ?_
    exact ⟨rfl, rfl, rfl⟩
  · exact fun _ _ _ _ h => h.elim
set_option maxRecDepth 20000 in
theorem kX3_vote_m {l : Launch} {K : gw_K} (hst : l.stackTraces = false) {rc mc n : Nat} {dy tch frs : Int32} {h : gw_H} {a : Nat} {b : Int32} (r0 : h 0 = (oB 3 [.ref 1, .ref 10, .ref 19, .ref 24, .int (nI mc), .int tch, .int frs])) (f0 : h 1 = (oB 2 [.ref (1 + 1), .ref (1 + 2), .ref (1 + 3), .ref (1 + 4), .ref (1 + 5), .ref (1 + 6), .ref (1 + 7), .ref (1 + 8), .int (nI rc), .int dy])) (hrc : rc ≤ 20) (ha : a < rc) (hz : b < -99 ∨ nI 99 < b) : Ctr l K mX3_vote [.ref 0, .int (nI a), .int b] h n 1 6 (fun _ _ _ => False) (PXQ "java/lang/IllegalArgumentException" h n) := by
  refine Ctr.of hst pn_X3_vote (Nat.le_of_ble_eq_true rfl) (fun X hX hr hE => ?_)
  have hX : FX l K X cX3_vote RX3 7 112 1 6 := hX
  show GW X 0 [some (.ref 0), some (.int (nI a)), some (.int b)] [] h n 0 0
  refine g_iload_n hX dX3_vote_0 rfl rfl ?_
  refine g_aload_n hX dX3_vote_1 rfl rfl ?_
  refine g_getf hX dX3_vote_2 fl_X3_12 (r0) rfl ?_
  refine g_getf hX dX3_vote_5 fl_X3_41 (f0) rfl ?_
  refine g_callS (As := [.int (nI a), .int (nI rc)]) hX dX3_vote_8 cb_X3_requireIndex ml_X3_33 st_X3_requireIndex rfl rfl (kX3_requireIndex hst (gn_okI ha (by omega))) (Nat.le_of_ble_eq_true rfl) (Nat.le_of_ble_eq_true rfl) (by omega) (by omega) (Nat.le_of_ble_eq_true rfl) GX.no (pq ?_)
  show GW X 11 [some (.ref 0), some (.int (nI a)), some (.int b)] [] h n 0 0
  refine g_iload_n hX dX3_vote_11 rfl rfl ?_
  refine g_bipush (v := (-99)) hX dX3_vote_12 (by decide) ?_
  refine g_bipush (v := (nI 99)) hX dX3_vote_14 (by decide) ?_
  refine g_callS (As := [.int b, .int (-99), .int (nI 99)]) hX dX3_vote_16 cb_X3_requireWithin ml_X3_37 st_X3_requireWithin rfl rfl (kX3_requireWithin_x hst (hz)) (Nat.le_of_ble_eq_true rfl) (Nat.le_of_ble_eq_true rfl) (by omega) (by omega) (Nat.le_of_ble_eq_true rfl) ?_ ?_
  · refine px ?_
    refine g_out hX hr hE.1 (by omega) (by omega) ?_
    exact ⟨rfl, rfl, rfl⟩
  · exact fun _ _ _ _ h => h.elim
set_option maxRecDepth 20000 in
theorem kX3_vote {l : Launch} {K : gw_K} (hst : l.stackTraces = false) {rc mc n : Nat} {dy tch frs : Int32} {h : gw_H} {vt : Nat → Int32} {a : Nat} {b : Int32} (r0 : h 0 = (oB 3 [.ref 1, .ref 10, .ref 19, .ref 24, .int (nI mc), .int tch, .int frs])) (f0 : h 1 = (oB 2 [.ref (1 + 1), .ref (1 + 2), .ref (1 + 3), .ref (1 + 4), .ref (1 + 5), .ref (1 + 6), .ref (1 + 7), .ref (1 + 8), .int (nI rc), .int dy])) (fvt : h (1 + 3) = (aI 20 vt)) (hrc : rc ≤ 20) (ha : a < rc) (hz : ¬ (b < -99 ∨ nI 99 < b)) : Ctr l K mX3_vote [.ref 0, .int (nI a), .int b] h n 1 6 (PQ (some (.int (clampI (vt a + b)))) (hs h (1 + 3) (aI 20 (upd vt a (clampI (vt a + b))))) n) (PX0) := by
  refine Ctr.of hst pn_X3_vote (Nat.le_of_ble_eq_true rfl) (fun X hX hr hE => ?_)
  have hX : FX l K X cX3_vote RX3 7 112 1 6 := hX
  show GW X 0 [some (.ref 0), some (.int (nI a)), some (.int b)] [] h n 0 0
  refine g_iload_n hX dX3_vote_0 rfl rfl ?_
  refine g_aload_n hX dX3_vote_1 rfl rfl ?_
  refine g_getf hX dX3_vote_2 fl_X3_12 (r0) rfl ?_
  refine g_getf hX dX3_vote_5 fl_X3_41 (f0) rfl ?_
  refine g_callS (As := [.int (nI a), .int (nI rc)]) hX dX3_vote_8 cb_X3_requireIndex ml_X3_33 st_X3_requireIndex rfl rfl (kX3_requireIndex hst (gn_okI ha (by omega))) (Nat.le_of_ble_eq_true rfl) (Nat.le_of_ble_eq_true rfl) (by omega) (by omega) (Nat.le_of_ble_eq_true rfl) GX.no (pq ?_)
  show GW X 11 [some (.ref 0), some (.int (nI a)), some (.int b)] [] h n 0 0
  refine g_iload_n hX dX3_vote_11 rfl rfl ?_
  refine g_bipush (v := (-99)) hX dX3_vote_12 (by decide) ?_
  refine g_bipush (v := (nI 99)) hX dX3_vote_14 (by decide) ?_
  refine g_callS (As := [.int b, .int (-99), .int (nI 99)]) hX dX3_vote_16 cb_X3_requireWithin ml_X3_37 st_X3_requireWithin rfl rfl (kX3_requireWithin hst (hz)) (Nat.le_of_ble_eq_true rfl) (Nat.le_of_ble_eq_true rfl) (by omega) (by omega) (Nat.le_of_ble_eq_true rfl) GX.no (pq ?_)
  show GW X 19 [some (.ref 0), some (.int (nI a)), some (.int b)] [] h n 0 0
  refine g_aload_n hX dX3_vote_19 rfl rfl ?_
  refine g_getf hX dX3_vote_20 fl_X3_12 (r0) rfl ?_
  refine g_iload_n hX dX3_vote_23 rfl rfl ?_
  refine g_iload_n hX dX3_vote_24 rfl rfl ?_
  refine g_callV (As := [.int (nI a), .int b]) hX dX3_vote_25 cb_X2_changeVotes ml_X3_56 im_X2_changeVotes se_X2_changeVotes rfl rfl (f0) ⟨_, rfl, rfl⟩ (kX2_changeVotes hst (f0) (fvt) (by omega)) (Nat.le_of_ble_eq_true rfl) (Nat.le_of_ble_eq_true rfl) (by omega) (by omega) (Nat.le_of_ble_eq_true rfl) GX.no (pq ?_)
  show GW X 28 [some (.ref 0), some (.int (nI a)), some (.int b)] [] (hs h (1 + 3) (aI 20 (upd vt a (clampI (vt a + b))))) n 0 0
  refine g_aload_n hX dX3_vote_28 rfl rfl ?_
  refine g_getf hX dX3_vote_29 fl_X3_12 ((hs_ne (by omega)).trans (r0)) rfl ?_
  refine g_getf hX dX3_vote_32 fl_X3_59 ((hs_ne (by omega)).trans (f0)) rfl ?_
  refine g_iload_n hX dX3_vote_35 rfl rfl ?_
  refine g_iaload hX dX3_vote_36 (hs_eq _ _ _) (a) (by omega) rfl (by omega) ?_
  refine g_ireturn hX hr dX3_vote_37 (by omega) (by omega)  ?_
  exact ⟨by rw [pk_us], rfl, rfl⟩
set_option maxRecDepth 20000 in
theorem kX3_seat_s {l : Launch} {K : gw_K} (hst : l.stackTraces = false) {rc mc n : Nat} {dy tch frs : Int32} {h : gw_H} {a b d : Int32} (r0 : h 0 = (oB 3 [.ref 1, .ref 10, .ref 19, .ref 24, .int (nI mc), .int tch, .int frs])) (f0 : h 1 = (oB 2 [.ref (1 + 1), .ref (1 + 2), .ref (1 + 3), .ref (1 + 4), .ref (1 + 5), .ref (1 + 6), .ref (1 + 7), .ref (1 + 8), .int (nI rc), .int dy])) (hz : (a < 0 ∨ nI 3 ≤ a) ∨ (b < 0 ∨ nI 6 ≤ b)) : Ctr l K mX3_seat [.ref 0, .int a, .int b, .int d] h n 1 6 (fun _ _ _ => False) (PXQ "java/lang/IndexOutOfBoundsException" h n) := by
  refine Ctr.of hst pn_X3_seat (Nat.le_of_ble_eq_true rfl) (fun X hX hr hE => ?_)
  have hX : FX l K X cX3_seat RX3 8 132 1 6 := hX
  show GW X 0 [some (.ref 0), some (.int a), some (.int b), some (.int d), none, none] [] h n 0 0
  refine g_iload_n hX dX3_seat_0 rfl rfl ?_
  refine g_iload_n hX dX3_seat_1 rfl rfl ?_
  refine g_callS (As := [.int a, .int b]) hX dX3_seat_2 cb_X3_requireSeat ml_X3_63 st_X3_requireSeat rfl rfl (kX3_requireSeat_x hst (hz)) (Nat.le_of_ble_eq_true rfl) (Nat.le_of_ble_eq_true rfl) (by omega) (by omega) (Nat.le_of_ble_eq_true rfl) ?_ ?_
  · refine px ?_
    refine g_out hX hr hE.1 (by omega) (by omega) ?_
    exact ⟨rfl, rfl, rfl⟩
  · exact fun _ _ _ _ h => h.elim
set_option maxRecDepth 20000 in
theorem kX3_seat_w {l : Launch} {K : gw_K} (hst : l.stackTraces = false) {rc mc n : Nat} {dy tch frs : Int32} {h : gw_H} {a b : Nat} {d : Int32} (r0 : h 0 = (oB 3 [.ref 1, .ref 10, .ref 19, .ref 24, .int (nI mc), .int tch, .int frs])) (f0 : h 1 = (oB 2 [.ref (1 + 1), .ref (1 + 2), .ref (1 + 3), .ref (1 + 4), .ref (1 + 5), .ref (1 + 6), .ref (1 + 7), .ref (1 + 8), .int (nI rc), .int dy])) (ha : a < 3) (hb : b < 6) (hz : d < 0 ∨ nI 4 ≤ d) : Ctr l K mX3_seat [.ref 0, .int (nI a), .int (nI b), .int d] h n 1 6 (fun _ _ _ => False) (PXQ "java/lang/IndexOutOfBoundsException" h n) := by
  refine Ctr.of hst pn_X3_seat (Nat.le_of_ble_eq_true rfl) (fun X hX hr hE => ?_)
  have hX : FX l K X cX3_seat RX3 8 132 1 6 := hX
  show GW X 0 [some (.ref 0), some (.int (nI a)), some (.int (nI b)), some (.int d), none, none] [] h n 0 0
  refine g_iload_n hX dX3_seat_0 rfl rfl ?_
  refine g_iload_n hX dX3_seat_1 rfl rfl ?_
  refine g_callS (As := [.int (nI a), .int (nI b)]) hX dX3_seat_2 cb_X3_requireSeat ml_X3_63 st_X3_requireSeat rfl rfl (kX3_requireSeat hst (gn_okS ha hb)) (Nat.le_of_ble_eq_true rfl) (Nat.le_of_ble_eq_true rfl) (by omega) (by omega) (Nat.le_of_ble_eq_true rfl) GX.no (pq ?_)
  show GW X 5 [some (.ref 0), some (.int (nI a)), some (.int (nI b)), some (.int d), none, none] [] h n 0 0
  refine g_iload_n hX dX3_seat_5 rfl rfl ?_
  refine g_iconst (v := (nI 4)) hX dX3_seat_6 (by decide) ?_
  refine g_callS (As := [.int d, .int (nI 4)]) hX dX3_seat_7 cb_X3_requireIndex ml_X3_33 st_X3_requireIndex rfl rfl (kX3_requireIndex_x hst (hz)) (Nat.le_of_ble_eq_true rfl) (Nat.le_of_ble_eq_true rfl) (by omega) (by omega) (Nat.le_of_ble_eq_true rfl) ?_ ?_
  · refine px ?_
    refine g_out hX hr hE.1 (by omega) (by omega) ?_
    exact ⟨rfl, rfl, rfl⟩
  · exact fun _ _ _ _ h => h.elim
set_option maxRecDepth 20000 in
theorem kX3_seat {l : Launch} {K : gw_K} (hst : l.stackTraces = false) {rc mc n : Nat} {dy tch frs : Int32} {h : gw_H} {ws : Nat → Int32} {a b d : Nat} (r0 : h 0 = (oB 3 [.ref 1, .ref 10, .ref 19, .ref 24, .int (nI mc), .int tch, .int frs])) (f0 : h 1 = (oB 2 [.ref (1 + 1), .ref (1 + 2), .ref (1 + 3), .ref (1 + 4), .ref (1 + 5), .ref (1 + 6), .ref (1 + 7), .ref (1 + 8), .int (nI rc), .int dy])) (fws : h (1 + 8) = (aI 18 ws)) (ha : a < 3) (hb : b < 6) (hd4 : d < 4) : Ctr l K mX3_seat [.ref 0, .int (nI a), .int (nI b), .int (nI d)] h n 1 6 (PQ (some (.int (ws (a * 6 + b)))) (hs h (1 + 8) (aI 18 (upd ws (a * 6 + b) (nI d)))) n) (PX0) := by
  refine Ctr.of hst pn_X3_seat (Nat.le_of_ble_eq_true rfl) (fun X hX hr hE => ?_)
  have hX : FX l K X cX3_seat RX3 8 132 1 6 := hX
  show GW X 0 [some (.ref 0), some (.int (nI a)), some (.int (nI b)), some (.int (nI d)), none, none] [] h n 0 0
  refine g_iload_n hX dX3_seat_0 rfl rfl ?_
  refine g_iload_n hX dX3_seat_1 rfl rfl ?_
  refine g_callS (As := [.int (nI a), .int (nI b)]) hX dX3_seat_2 cb_X3_requireSeat ml_X3_63 st_X3_requireSeat rfl rfl (kX3_requireSeat hst (gn_okS ha hb)) (Nat.le_of_ble_eq_true rfl) (Nat.le_of_ble_eq_true rfl) (by omega) (by omega) (Nat.le_of_ble_eq_true rfl) GX.no (pq ?_)
  show GW X 5 [some (.ref 0), some (.int (nI a)), some (.int (nI b)), some (.int (nI d)), none, none] [] h n 0 0
  refine g_iload_n hX dX3_seat_5 rfl rfl ?_
  refine g_iconst (v := (nI 4)) hX dX3_seat_6 (by decide) ?_
  refine g_callS (As := [.int (nI d), .int (nI 4)]) hX dX3_seat_7 cb_X3_requireIndex ml_X3_33 st_X3_requireIndex rfl rfl (kX3_requireIndex hst (gn_okI hd4 (by omega))) (Nat.le_of_ble_eq_true rfl) (Nat.le_of_ble_eq_true rfl) (by omega) (by omega) (Nat.le_of_ble_eq_true rfl) GX.no (pq ?_)
  show GW X 10 [some (.ref 0), some (.int (nI a)), some (.int (nI b)), some (.int (nI d)), none, none] [] h n 0 0
  refine g_iload_n hX dX3_seat_10 rfl rfl ?_
  refine g_iload_n hX dX3_seat_11 rfl rfl ?_
  refine g_callS (As := [.int (nI a), .int (nI b)]) hX dX3_seat_12 cb_X3_seatNumber ml_X3_66 st_X3_seatNumber rfl rfl (kX3_seatNumber hst) (Nat.le_of_ble_eq_true rfl) (Nat.le_of_ble_eq_true rfl) (by omega) (by omega) (Nat.le_of_ble_eq_true rfl) GX.no (pq ?_)
  show GW X 15 [some (.ref 0), some (.int (nI a)), some (.int (nI b)), some (.int (nI d)), none, none] [.int (nI (a * 6 + b))] h n 0 0
  refine g_istore hX dX3_seat_15 (Nat.le_of_ble_eq_true rfl) rfl ?_
  refine g_aload_n hX dX3_seat_17 rfl rfl ?_
  refine g_getf hX dX3_seat_18 fl_X3_12 (r0) rfl ?_
  refine g_getf hX dX3_seat_21 fl_X3_70 (f0) rfl ?_
  refine g_iload hX dX3_seat_24 rfl ?_
  refine g_iaload hX dX3_seat_26 (fws) (a * 6 + b) (by omega) rfl (by omega) ?_
  refine g_istore hX dX3_seat_27 (Nat.le_of_ble_eq_true rfl) rfl ?_
  refine g_aload_n hX dX3_seat_29 rfl rfl ?_
  refine g_getf hX dX3_seat_30 fl_X3_12 (r0) rfl ?_
  refine g_getf hX dX3_seat_33 fl_X3_70 (f0) rfl ?_
  refine g_iload hX dX3_seat_36 rfl ?_
  refine g_iload_n hX dX3_seat_38 rfl rfl ?_
  refine g_iastore hX dX3_seat_39 (fws) (a * 6 + b) (by omega) rfl (by omega) ?_
  refine g_iload hX dX3_seat_40 rfl ?_
  refine g_ireturn hX hr dX3_seat_42 (by omega) (by omega)  ?_
  exact ⟨rfl, rfl, rfl⟩
set_option maxRecDepth 20000 in
theorem kX3_elect_b {l : Launch} {K : gw_K} (hst : l.stackTraces = false) {rc mc n : Nat} {dy tch frs : Int32} {h : gw_H} {a : Int32} (r0 : h 0 = (oB 3 [.ref 1, .ref 10, .ref 19, .ref 24, .int (nI mc), .int tch, .int frs])) (f0 : h 1 = (oB 2 [.ref (1 + 1), .ref (1 + 2), .ref (1 + 3), .ref (1 + 4), .ref (1 + 5), .ref (1 + 6), .ref (1 + 7), .ref (1 + 8), .int (nI rc), .int dy])) (hz : a < 0 ∨ nI 3 ≤ a) : Ctr l K mX3_elect [.ref 0, .int a] h n 1 6 (fun _ _ _ => False) (PXQ "java/lang/IndexOutOfBoundsException" h n) := by
  refine Ctr.of hst pn_X3_elect (Nat.le_of_ble_eq_true rfl) (fun X hX hr hE => ?_)
  have hX : FX l K X cX3_elect RX3 7 111 1 6 := hX
  show GW X 0 [some (.ref 0), some (.int a)] [] h n 0 0
  refine g_iload_n hX dX3_elect_0 rfl rfl ?_
  refine g_iconst (v := (nI 3)) hX dX3_elect_1 (by decide) ?_
  refine g_callS (As := [.int a, .int (nI 3)]) hX dX3_elect_2 cb_X3_requireIndex ml_X3_33 st_X3_requireIndex rfl rfl (kX3_requireIndex_x hst (hz)) (Nat.le_of_ble_eq_true rfl) (Nat.le_of_ble_eq_true rfl) (by omega) (by omega) (Nat.le_of_ble_eq_true rfl) ?_ ?_
  · refine px ?_
    refine g_out hX hr hE.1 (by omega) (by omega) ?_
    exact ⟨rfl, rfl, rfl⟩
  · exact fun _ _ _ _ h => h.elim
set_option maxRecDepth 20000 in
theorem kX3_elect {l : Launch} {K : gw_K} (hst : l.stackTraces = false) {rc mc n : Nat} {dy tch frs : Int32} {h : gw_H} {wd vt st ws : Nat → Int32} {a : Nat} (r0 : h 0 = (oB 3 [.ref 1, .ref 10, .ref 19, .ref 24, .int (nI mc), .int tch, .int frs])) (f0 : h 1 = (oB 2 [.ref (1 + 1), .ref (1 + 2), .ref (1 + 3), .ref (1 + 4), .ref (1 + 5), .ref (1 + 6), .ref (1 + 7), .ref (1 + 8), .int (nI rc), .int dy])) (fwd : h (1 + 1) = (aI 20 wd)) (fvt : h (1 + 3) = (aI 20 vt)) (fst : h (1 + 7) = (aI 20 st)) (fws : h (1 + 8) = (aI 18 ws)) (hrc : rc ≤ 20) (ha : a < 3) : Ctr l K mX3_elect [.ref 0, .int (nI a)] h n 1 6 (PQ (some (.int (cntI (elB wd vt ws rc st a) rc (nI a)))) (hs h (1 + 7) (aI 20 (elB wd vt ws rc st a))) n) (PX0) := by
  refine Ctr.of hst pn_X3_elect (Nat.le_of_ble_eq_true rfl) (fun X hX hr hE => ?_)
  have hX : FX l K X cX3_elect RX3 7 111 1 6 := hX
  show GW X 0 [some (.ref 0), some (.int (nI a))] [] h n 0 0
  refine g_iload_n hX dX3_elect_0 rfl rfl ?_
  refine g_iconst (v := (nI 3)) hX dX3_elect_1 (by decide) ?_
  refine g_callS (As := [.int (nI a), .int (nI 3)]) hX dX3_elect_2 cb_X3_requireIndex ml_X3_33 st_X3_requireIndex rfl rfl (kX3_requireIndex hst (gn_okI ha (by omega))) (Nat.le_of_ble_eq_true rfl) (Nat.le_of_ble_eq_true rfl) (by omega) (by omega) (Nat.le_of_ble_eq_true rfl) GX.no (pq ?_)
  show GW X 5 [some (.ref 0), some (.int (nI a))] [] h n 0 0
  refine g_aload_n hX dX3_elect_5 rfl rfl ?_
  refine g_getf hX dX3_elect_6 fl_X3_12 (r0) rfl ?_
  refine g_iload_n hX dX3_elect_9 rfl rfl ?_
  refine g_callV (As := [.int (nI a)]) hX dX3_elect_10 cb_X2_electBand ml_X3_73 im_X2_electBand se_X2_electBand rfl rfl (f0) ⟨_, rfl, rfl⟩ (kX2_electBand hst (f0) (fwd) (fvt) (fst) (fws) (by omega) (by omega)) (Nat.le_of_ble_eq_true rfl) (Nat.le_of_ble_eq_true rfl) (by omega) (by omega) (Nat.le_of_ble_eq_true rfl) GX.no (pq ?_)
  show GW X 13 [some (.ref 0), some (.int (nI a))] [] (hs h (1 + 7) (aI 20 (elB wd vt ws rc st a))) n 0 0
  refine g_aload_n hX dX3_elect_13 rfl rfl ?_
  refine g_getf hX dX3_elect_14 fl_X3_12 ((hs_ne (by omega)).trans (r0)) rfl ?_
  refine g_iload_n hX dX3_elect_17 rfl rfl ?_
  refine g_callV (As := [.int (nI a)]) hX dX3_elect_18 cb_X2_ringersIn ml_X3_77 im_X2_ringersIn se_X2_ringersIn rfl rfl ((hs_ne (by omega)).trans (f0)) ⟨_, rfl, rfl⟩ (kX2_ringersIn hst ((hs_ne (by omega)).trans (f0)) (hs_eq _ _ _) (by omega)) (Nat.le_of_ble_eq_true rfl) (Nat.le_of_ble_eq_true rfl) (by omega) (by omega) (Nat.le_of_ble_eq_true rfl) GX.no (pq ?_)
  show GW X 21 [some (.ref 0), some (.int (nI a))] [.int (cntI (elB wd vt ws rc st a) rc (nI a))] (hs h (1 + 7) (aI 20 (elB wd vt ws rc st a))) n 0 0
  refine g_ireturn hX hr dX3_elect_21 (by omega) (by omega)  ?_
  exact ⟨rfl, rfl, rfl⟩
set_option maxRecDepth 20000 in
theorem kX3_put_s {l : Launch} {K : gw_K} (hst : l.stackTraces = false) {rc mc n : Nat} {dy tch frs : Int32} {h : gw_H} {a b d : Int32} (r0 : h 0 = (oB 3 [.ref 1, .ref 10, .ref 19, .ref 24, .int (nI mc), .int tch, .int frs])) (f0 : h 1 = (oB 2 [.ref (1 + 1), .ref (1 + 2), .ref (1 + 3), .ref (1 + 4), .ref (1 + 5), .ref (1 + 6), .ref (1 + 7), .ref (1 + 8), .int (nI rc), .int dy])) (hz : (a < 0 ∨ nI 3 ≤ a) ∨ (b < 0 ∨ nI 6 ≤ b)) : Ctr l K mX3_put [.ref 0, .int a, .int b, .int d] h n 1 6 (fun _ _ _ => False) (PXQ "java/lang/IndexOutOfBoundsException" h n) := by
  refine Ctr.of hst pn_X3_put (Nat.le_of_ble_eq_true rfl) (fun X hX hr hE => ?_)
  have hX : FX l K X cX3_put RX3 8 132 1 6 := hX
  show GW X 0 [some (.ref 0), some (.int a), some (.int b), some (.int d), none] [] h n 0 0
  refine g_iload_n hX dX3_put_0 rfl rfl ?_
  refine g_iload_n hX dX3_put_1 rfl rfl ?_
  refine g_callS (As := [.int a, .int b]) hX dX3_put_2 cb_X3_requireSeat ml_X3_63 st_X3_requireSeat rfl rfl (kX3_requireSeat_x hst (hz)) (Nat.le_of_ble_eq_true rfl) (Nat.le_of_ble_eq_true rfl) (by omega) (by omega) (Nat.le_of_ble_eq_true rfl) ?_ ?_
  · refine px ?_
    refine g_out hX hr hE.1 (by omega) (by omega) ?_
    exact ⟨rfl, rfl, rfl⟩
  · exact fun _ _ _ _ h => h.elim
set_option maxRecDepth 20000 in
theorem kX3_put_r {l : Launch} {K : gw_K} (hst : l.stackTraces = false) {rc mc n : Nat} {dy tch frs : Int32} {h : gw_H} {a b : Nat} {d : Int32} (r0 : h 0 = (oB 3 [.ref 1, .ref 10, .ref 19, .ref 24, .int (nI mc), .int tch, .int frs])) (f0 : h 1 = (oB 2 [.ref (1 + 1), .ref (1 + 2), .ref (1 + 3), .ref (1 + 4), .ref (1 + 5), .ref (1 + 6), .ref (1 + 7), .ref (1 + 8), .int (nI rc), .int dy])) (ha : a < 3) (hb : b < 6) (hz : d < 0 ∨ nI rc ≤ d) : Ctr l K mX3_put [.ref 0, .int (nI a), .int (nI b), .int d] h n 1 6 (fun _ _ _ => False) (PXQ "java/lang/IndexOutOfBoundsException" h n) := by
  refine Ctr.of hst pn_X3_put (Nat.le_of_ble_eq_true rfl) (fun X hX hr hE => ?_)
  have hX : FX l K X cX3_put RX3 8 132 1 6 := hX
  show GW X 0 [some (.ref 0), some (.int (nI a)), some (.int (nI b)), some (.int d), none] [] h n 0 0
  refine g_iload_n hX dX3_put_0 rfl rfl ?_
  refine g_iload_n hX dX3_put_1 rfl rfl ?_
  refine g_callS (As := [.int (nI a), .int (nI b)]) hX dX3_put_2 cb_X3_requireSeat ml_X3_63 st_X3_requireSeat rfl rfl (kX3_requireSeat hst (gn_okS ha hb)) (Nat.le_of_ble_eq_true rfl) (Nat.le_of_ble_eq_true rfl) (by omega) (by omega) (Nat.le_of_ble_eq_true rfl) GX.no (pq ?_)
  show GW X 5 [some (.ref 0), some (.int (nI a)), some (.int (nI b)), some (.int d), none] [] h n 0 0
  refine g_iload_n hX dX3_put_5 rfl rfl ?_
  refine g_aload_n hX dX3_put_6 rfl rfl ?_
  refine g_getf hX dX3_put_7 fl_X3_12 (r0) rfl ?_
  refine g_getf hX dX3_put_10 fl_X3_41 (f0) rfl ?_
  refine g_callS (As := [.int d, .int (nI rc)]) hX dX3_put_13 cb_X3_requireIndex ml_X3_33 st_X3_requireIndex rfl rfl (kX3_requireIndex_x hst (hz)) (Nat.le_of_ble_eq_true rfl) (Nat.le_of_ble_eq_true rfl) (by omega) (by omega) (Nat.le_of_ble_eq_true rfl) ?_ ?_
  · refine px ?_
    refine g_out hX hr hE.1 (by omega) (by omega) ?_
    exact ⟨rfl, rfl, rfl⟩
  · exact fun _ _ _ _ h => h.elim
set_option maxRecDepth 20000 in
theorem kX3_put {l : Launch} {K : gw_K} (hst : l.stackTraces = false) {rc mc n : Nat} {dy tch frs : Int32} {h : gw_H} {st ws : Nat → Int32} {a b d : Nat} (r0 : h 0 = (oB 3 [.ref 1, .ref 10, .ref 19, .ref 24, .int (nI mc), .int tch, .int frs])) (f0 : h 1 = (oB 2 [.ref (1 + 1), .ref (1 + 2), .ref (1 + 3), .ref (1 + 4), .ref (1 + 5), .ref (1 + 6), .ref (1 + 7), .ref (1 + 8), .int (nI rc), .int dy])) (fst : h (1 + 7) = (aI 20 st)) (fws : h (1 + 8) = (aI 18 ws)) (hrc : rc ≤ 20) (ha : a < 3) (hb : b < 6) (hd : d < rc) : Ctr l K mX3_put [.ref 0, .int (nI a), .int (nI b), .int (nI d)] h n 1 6 (fun rv h' n' => (atI st rc (nI (a * 6 + b)) = -1 ∧ st d = -1) ∧ rv = some (.int (ws (a * 6 + b))) ∧ h' = hs h (1 + 7) (aI 20 (upd st d (nI (a * 6 + b)))) ∧ n' = n) (fun E h' n' => ¬ (atI st rc (nI (a * 6 + b)) = -1 ∧ st d = -1) ∧ E = "java/lang/IllegalStateException" ∧ h' = h ∧ n' = n) := by
  refine Ctr.of hst pn_X3_put (Nat.le_of_ble_eq_true rfl) (fun X hX hr hE => ?_)
  have hX : FX l K X cX3_put RX3 8 132 1 6 := hX
  show GW X 0 [some (.ref 0), some (.int (nI a)), some (.int (nI b)), some (.int (nI d)), none] [] h n 0 0
  refine g_iload_n hX dX3_put_0 rfl rfl ?_
  refine g_iload_n hX dX3_put_1 rfl rfl ?_
  refine g_callS (As := [.int (nI a), .int (nI b)]) hX dX3_put_2 cb_X3_requireSeat ml_X3_63 st_X3_requireSeat rfl rfl (kX3_requireSeat hst (gn_okS ha hb)) (Nat.le_of_ble_eq_true rfl) (Nat.le_of_ble_eq_true rfl) (by omega) (by omega) (Nat.le_of_ble_eq_true rfl) GX.no (pq ?_)
  show GW X 5 [some (.ref 0), some (.int (nI a)), some (.int (nI b)), some (.int (nI d)), none] [] h n 0 0
  refine g_iload_n hX dX3_put_5 rfl rfl ?_
  refine g_aload_n hX dX3_put_6 rfl rfl ?_
  refine g_getf hX dX3_put_7 fl_X3_12 (r0) rfl ?_
  refine g_getf hX dX3_put_10 fl_X3_41 (f0) rfl ?_
  refine g_callS (As := [.int (nI d), .int (nI rc)]) hX dX3_put_13 cb_X3_requireIndex ml_X3_33 st_X3_requireIndex rfl rfl (kX3_requireIndex hst (gn_okI hd (by omega))) (Nat.le_of_ble_eq_true rfl) (Nat.le_of_ble_eq_true rfl) (by omega) (by omega) (Nat.le_of_ble_eq_true rfl) GX.no (pq ?_)
  show GW X 16 [some (.ref 0), some (.int (nI a)), some (.int (nI b)), some (.int (nI d)), none] [] h n 0 0
  refine g_iload_n hX dX3_put_16 rfl rfl ?_
  refine g_iload_n hX dX3_put_17 rfl rfl ?_
  refine g_callS (As := [.int (nI a), .int (nI b)]) hX dX3_put_18 cb_X3_seatNumber ml_X3_66 st_X3_seatNumber rfl rfl (kX3_seatNumber hst) (Nat.le_of_ble_eq_true rfl) (Nat.le_of_ble_eq_true rfl) (by omega) (by omega) (Nat.le_of_ble_eq_true rfl) GX.no (pq ?_)
  show GW X 21 [some (.ref 0), some (.int (nI a)), some (.int (nI b)), some (.int (nI d)), none] [.int (nI (a * 6 + b))] h n 0 0
  refine g_istore hX dX3_put_21 (Nat.le_of_ble_eq_true rfl) rfl ?_
  refine g_aload_n hX dX3_put_23 rfl rfl ?_
  refine g_getf hX dX3_put_24 fl_X3_12 (r0) rfl ?_
  refine g_iload hX dX3_put_27 rfl ?_
  refine g_callV (As := [.int (nI (a * 6 + b))]) hX dX3_put_29 cb_X2_ringerAt ml_X3_81 im_X2_ringerAt se_X2_ringerAt rfl rfl (f0) ⟨_, rfl, rfl⟩ (kX2_ringerAt hst (f0) (fst) (by omega)) (Nat.le_of_ble_eq_true rfl) (Nat.le_of_ble_eq_true rfl) (by omega) (by omega) (Nat.le_of_ble_eq_true rfl) GX.no (pq ?_)
  show GW X 32 [some (.ref 0), some (.int (nI a)), some (.int (nI b)), some (.int (nI d)), some (.int (nI (a * 6 + b)))] [.int (atI st rc (nI (a * 6 + b)))] h n 0 0
  refine g_iconst (v := (-1)) hX dX3_put_32 (by decide) ?_
  refine g_icmp_eq (tgt := 46) hX dX3_put_33 (by decide) (fun c1 => ?_) (fun c1 => ?_)
  · refine g_aload_n hX dX3_put_46 rfl rfl ?_
    refine g_getf hX dX3_put_47 fl_X3_12 (r0) rfl ?_
    refine g_iload_n hX dX3_put_50 rfl rfl ?_
    refine g_callV (As := [.int (nI d)]) hX dX3_put_51 cb_X2_ringsBell ml_X3_86 im_X2_ringsBell se_X2_ringsBell rfl rfl (f0) ⟨_, rfl, rfl⟩ (kX2_ringsBell hst (f0) (fst) (by omega)) (Nat.le_of_ble_eq_true rfl) (Nat.le_of_ble_eq_true rfl) (by omega) (by omega) (Nat.le_of_ble_eq_true rfl) GX.no (pq ?_)
    show GW X 54 [some (.ref 0), some (.int (nI a)), some (.int (nI b)), some (.int (nI d)), some (.int (nI (a * 6 + b)))] [.int (if ¬ st d = -1 then nI 1 else nI 0)] h n 0 0
    refine g_ifB_eq (tgt := 67) hX dX3_put_54 (by decide) (fun c2 => ?_) (fun c2 => ?_)
    · refine g_aload_n hX dX3_put_67 rfl rfl ?_
      refine g_getf hX dX3_put_68 fl_X3_12 (r0) rfl ?_
      refine g_getf hX dX3_put_71 fl_X3_92 (f0) rfl ?_
      refine g_iload_n hX dX3_put_74 rfl rfl ?_
      refine g_iload hX dX3_put_75 rfl ?_
      refine g_iastore hX dX3_put_77 (fst) (d) (by omega) rfl (by omega) ?_
      refine g_aload_n hX dX3_put_78 rfl rfl ?_
      refine g_getf hX dX3_put_79 fl_X3_12 ((hs_ne (by omega)).trans (r0)) rfl ?_
      refine g_getf hX dX3_put_82 fl_X3_70 ((hs_ne (by omega)).trans (f0)) rfl ?_
      refine g_iload hX dX3_put_85 rfl ?_
      refine g_iaload hX dX3_put_87 ((hs_ne (by omega)).trans (fws)) (a * 6 + b) (by omega) rfl (by omega) ?_
      refine g_ireturn hX hr dX3_put_88 (by omega) (by omega)  ?_
      exact ⟨⟨c1, Classical.not_not.mp c2⟩, rfl, rfl, rfl⟩
    · refine g_throwS hX hr hE.1 ts_45_90_49 dX3_put_57 dX3_put_60 dX3_put_61 dX3_put_63 dX3_put_66 (Nat.le_of_ble_eq_true rfl) (Nat.le_of_ble_eq_true rfl) (by omega) (by omega) ?_
      exact ⟨fun q => c2 q.2, rfl, rfl, rfl⟩
  · refine g_throwS hX hr hE.1 ts_45_84_49 dX3_put_36 dX3_put_39 dX3_put_40 dX3_put_42 dX3_put_45 (Nat.le_of_ble_eq_true rfl) (Nat.le_of_ble_eq_true rfl) (by omega) (by omega) ?_
    exact ⟨fun q => c1 q.1, rfl, rfl, rfl⟩
set_option maxRecDepth 20000 in
theorem kX3_leave_r {l : Launch} {K : gw_K} (hst : l.stackTraces = false) {rc mc n : Nat} {dy tch frs : Int32} {h : gw_H} {a : Int32} (r0 : h 0 = (oB 3 [.ref 1, .ref 10, .ref 19, .ref 24, .int (nI mc), .int tch, .int frs])) (f0 : h 1 = (oB 2 [.ref (1 + 1), .ref (1 + 2), .ref (1 + 3), .ref (1 + 4), .ref (1 + 5), .ref (1 + 6), .ref (1 + 7), .ref (1 + 8), .int (nI rc), .int dy])) (hz : a < 0 ∨ nI rc ≤ a) : Ctr l K mX3_leave [.ref 0, .int a] h n 1 6 (fun _ _ _ => False) (PXQ "java/lang/IndexOutOfBoundsException" h n) := by
  refine Ctr.of hst pn_X3_leave (Nat.le_of_ble_eq_true rfl) (fun X hX hr hE => ?_)
  have hX : FX l K X cX3_leave RX3 7 111 1 6 := hX
  show GW X 0 [some (.ref 0), some (.int a), none] [] h n 0 0
  refine g_iload_n hX dX3_leave_0 rfl rfl ?_
  refine g_aload_n hX dX3_leave_1 rfl rfl ?_
  refine g_getf hX dX3_leave_2 fl_X3_12 (r0) rfl ?_
  refine g_getf hX dX3_leave_5 fl_X3_41 (f0) rfl ?_
  refine g_callS (As := [.int a, .int (nI rc)]) hX dX3_leave_8 cb_X3_requireIndex ml_X3_33 st_X3_requireIndex rfl rfl (kX3_requireIndex_x hst (hz)) (Nat.le_of_ble_eq_true rfl) (Nat.le_of_ble_eq_true rfl) (by omega) (by omega) (Nat.le_of_ble_eq_true rfl) ?_ ?_
  · refine px ?_
    refine g_out hX hr hE.1 (by omega) (by omega) ?_
    exact ⟨rfl, rfl, rfl⟩
  · exact fun _ _ _ _ h => h.elim
set_option maxRecDepth 20000 in
theorem kX3_leave {l : Launch} {K : gw_K} (hst : l.stackTraces = false) {rc mc n : Nat} {dy tch frs : Int32} {h : gw_H} {st : Nat → Int32} {a : Nat} (r0 : h 0 = (oB 3 [.ref 1, .ref 10, .ref 19, .ref 24, .int (nI mc), .int tch, .int frs])) (f0 : h 1 = (oB 2 [.ref (1 + 1), .ref (1 + 2), .ref (1 + 3), .ref (1 + 4), .ref (1 + 5), .ref (1 + 6), .ref (1 + 7), .ref (1 + 8), .int (nI rc), .int dy])) (fst : h (1 + 7) = (aI 20 st)) (hrc : rc ≤ 20) (ha : a < rc) : Ctr l K mX3_leave [.ref 0, .int (nI a)] h n 1 6 (fun rv h' n' => ¬ st a = -1 ∧ rv = some (.int (nI 10 * bandI (st a) + bellI (st a))) ∧ h' = hs h (1 + 7) (aI 20 (upd st a (-1))) ∧ n' = n) (fun E h' n' => st a = -1 ∧ E = "java/lang/IllegalStateException" ∧ h' = h ∧ n' = n) := by
  refine Ctr.of hst pn_X3_leave (Nat.le_of_ble_eq_true rfl) (fun X hX hr hE => ?_)
  have hX : FX l K X cX3_leave RX3 7 111 1 6 := hX
  show GW X 0 [some (.ref 0), some (.int (nI a)), none] [] h n 0 0
  refine g_iload_n hX dX3_leave_0 rfl rfl ?_
  refine g_aload_n hX dX3_leave_1 rfl rfl ?_
  refine g_getf hX dX3_leave_2 fl_X3_12 (r0) rfl ?_
  refine g_getf hX dX3_leave_5 fl_X3_41 (f0) rfl ?_
  refine g_callS (As := [.int (nI a), .int (nI rc)]) hX dX3_leave_8 cb_X3_requireIndex ml_X3_33 st_X3_requireIndex rfl rfl (kX3_requireIndex hst (gn_okI ha (by omega))) (Nat.le_of_ble_eq_true rfl) (Nat.le_of_ble_eq_true rfl) (by omega) (by omega) (Nat.le_of_ble_eq_true rfl) GX.no (pq ?_)
  show GW X 11 [some (.ref 0), some (.int (nI a)), none] [] h n 0 0
  refine g_aload_n hX dX3_leave_11 rfl rfl ?_
  refine g_getf hX dX3_leave_12 fl_X3_12 (r0) rfl ?_
  refine g_iload_n hX dX3_leave_15 rfl rfl ?_
  refine g_callV (As := [.int (nI a)]) hX dX3_leave_16 cb_X2_ringsBell ml_X3_86 im_X2_ringsBell se_X2_ringsBell rfl rfl (f0) ⟨_, rfl, rfl⟩ (kX2_ringsBell hst (f0) (fst) (by omega)) (Nat.le_of_ble_eq_true rfl) (Nat.le_of_ble_eq_true rfl) (by omega) (by omega) (Nat.le_of_ble_eq_true rfl) GX.no (pq ?_)
  show GW X 19 [some (.ref 0), some (.int (nI a)), none] [.int (if ¬ st a = -1 then nI 1 else nI 0)] h n 0 0
  refine g_ifB_ne (tgt := 32) hX dX3_leave_19 (by decide) (fun c1 => ?_) (fun c1 => ?_)
  · refine g_bipush (v := (nI 10)) hX dX3_leave_32 (by decide) ?_
    refine g_aload_n hX dX3_leave_34 rfl rfl ?_
    refine g_getf hX dX3_leave_35 fl_X3_12 (r0) rfl ?_
    refine g_iload_n hX dX3_leave_38 rfl rfl ?_
    refine g_callV (As := [.int (nI a)]) hX dX3_leave_39 cb_X2_bandOf ml_X3_97 im_X2_bandOf se_X2_bandOf rfl rfl (f0) ⟨_, rfl, rfl⟩ (kX2_bandOf hst (f0) (fst) (by omega)) (Nat.le_of_ble_eq_true rfl) (Nat.le_of_ble_eq_true rfl) (by omega) (by omega) (Nat.le_of_ble_eq_true rfl) GX.no (pq ?_)
    show GW X 42 [some (.ref 0), some (.int (nI a)), none] [.int (bandI (st a)), .int (nI 10)] h n 0 0
    refine g_imul hX dX3_leave_42 ?_
    refine g_aload_n hX dX3_leave_43 rfl rfl ?_
    refine g_getf hX dX3_leave_44 fl_X3_12 (r0) rfl ?_
    refine g_iload_n hX dX3_leave_47 rfl rfl ?_
    refine g_callV (As := [.int (nI a)]) hX dX3_leave_48 cb_X2_bellOf ml_X3_100 im_X2_bellOf se_X2_bellOf rfl rfl (f0) ⟨_, rfl, rfl⟩ (kX2_bellOf hst (f0) (fst) (by omega)) (Nat.le_of_ble_eq_true rfl) (Nat.le_of_ble_eq_true rfl) (by omega) (by omega) (Nat.le_of_ble_eq_true rfl) GX.no (pq ?_)
    show GW X 51 [some (.ref 0), some (.int (nI a)), none] [.int (bellI (st a)), .int ((nI 10) * (bandI (st a)))] h n 0 0
    refine g_iadd hX dX3_leave_51 ?_
    refine g_istore_n (i := 2) hX dX3_leave_52 rfl (Nat.le_of_ble_eq_true rfl) rfl ?_
    refine g_aload_n hX dX3_leave_53 rfl rfl ?_
    refine g_getf hX dX3_leave_54 fl_X3_12 (r0) rfl ?_
    refine g_getf hX dX3_leave_57 fl_X3_92 (f0) rfl ?_
    refine g_iload_n hX dX3_leave_60 rfl rfl ?_
    refine g_iconst (v := (-1)) hX dX3_leave_61 (by decide) ?_
    refine g_iastore hX dX3_leave_62 (fst) (a) (by omega) rfl (by omega) ?_
    refine g_iload_n hX dX3_leave_63 rfl rfl ?_
    refine g_ireturn hX hr dX3_leave_64 (by omega) (by omega)  ?_
    exact ⟨c1, rfl, rfl, rfl⟩
  · refine g_throwS hX hr hE.1 ts_45_95_49 dX3_leave_22 dX3_leave_25 dX3_leave_26 dX3_leave_28 dX3_leave_31 (Nat.le_of_ble_eq_true rfl) (Nat.le_of_ble_eq_true rfl) (by omega) (by omega) ?_
    exact ⟨Classical.not_not.mp c1, rfl, rfl, rfl⟩
