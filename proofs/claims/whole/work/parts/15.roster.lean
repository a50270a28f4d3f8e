set_option maxRecDepth 20000 in
theorem kX3_ringer_w {l : Launch} {K : gw_K} (hst : l.stackTraces = false) {rc mc n : Nat} {dy tch frs : Int32} {h : gw_H} {a b d : Int32} (r0 : h 0 = (oB 3 [.ref 1, .ref 10, .ref 19, .ref 24, .int (nI mc), .int tch, .int frs])) (f0 : h 1 = (oB 2 [.ref (1 + 1), .ref (1 + 2), .ref (1 + 3), .ref (1 + 4), .ref (1 + 5), .ref (1 + 6), .ref (1 + 7), .ref (1 + 8), .int (nI rc), .int dy])) (hz : a < 0 ∨ nI 4 ≤ a) : Ctr l K mX3_ringer [.ref 0, .int a, .int b, .int d] h n 1 6 (fun _ _ _ => False) (PXQ "java/lang/IndexOutOfBoundsException" h n) := by
  refine Ctr.of hst pn_X3_ringer (Nat.le_of_ble_eq_true rfl) (fun X hX hr hE => ?_)
  have hX : FX l K X cX3_ringer RX3 7 112 1 6 := hX
  show GW X 0 [some (.ref 0), some (.int a), some (.int b), some (.int d)] [] h n 0 0
  refine g_iload_n hX dX3_ringer_0 rfl rfl ?_
  refine g_iconst (v := (nI 4)) hX dX3_ringer_1 (by decide) ?_
  refine g_callS (As := [.int a, .int (nI 4)]) hX dX3_ringer_2 cb_X3_requireIndex ml_X3_33 st_X3_requireIndex rfl rfl (kX3_requireIndex_x hst (hz)) (Nat.le_of_ble_eq_true rfl) (Nat.le_of_ble_eq_true rfl) (by omega) (by omega) (Nat.le_of_ble_eq_true rfl) ?_ ?_
  · refine px ?_
    refine g_out hX hr hE.1 (by omega) (by omega) ?_
    exact ⟨rfl, rfl, rfl⟩
  · exact fun _ _ _ _ h => h.elim
set_option maxRecDepth 20000 in
theorem kX3_ringer_s {l : Launch} {K : gw_K} (hst : l.stackTraces = false) {rc mc n : Nat} {dy tch frs : Int32} {h : gw_H} {a : Nat} {b d : Int32} (r0 : h 0 = (oB 3 [.ref 1, .ref 10, .ref 19, .ref 24, .int (nI mc), .int tch, .int frs])) (f0 : h 1 = (oB 2 [.ref (1 + 1), .ref (1 + 2), .ref (1 + 3), .ref (1 + 4), .ref (1 + 5), .ref (1 + 6), .ref (1 + 7), .ref (1 + 8), .int (nI rc), .int dy])) (ha : a < 4) (hz : b < nI 0 ∨ nI 9 < b) : Ctr l K mX3_ringer [.ref 0, .int (nI a), .int b, .int d] h n 1 6 (fun _ _ _ => False) (PXQ "java/lang/IllegalArgumentException" h n) := by
  refine Ctr.of hst pn_X3_ringer (Nat.le_of_ble_eq_true rfl) (fun X hX hr hE => ?_)
  have hX : FX l K X cX3_ringer RX3 7 112 1 6 := hX
  show GW X 0 [some (.ref 0), some (.int (nI a)), some (.int b), some (.int d)] [] h n 0 0
  refine g_iload_n hX dX3_ringer_0 rfl rfl ?_
  refine g_iconst (v := (nI 4)) hX dX3_ringer_1 (by decide) ?_
  refine g_callS (As := [.int (nI a), .int (nI 4)]) hX dX3_ringer_2 cb_X3_requireIndex ml_X3_33 st_X3_requireIndex rfl rfl (kX3_requireIndex hst (gn_okI ha (by omega))) (Nat.le_of_ble_eq_true rfl) (Nat.le_of_ble_eq_true rfl) (by omega) (by omega) (Nat.le_of_ble_eq_true rfl) GX.no (pq ?_)
  show GW X 5 [some (.ref 0), some (.int (nI a)), some (.int b), some (.int d)] [] h n 0 0
  refine g_iload_n hX dX3_ringer_5 rfl rfl ?_
  refine g_iconst (v := (nI 0)) hX dX3_ringer_6 (by decide) ?_
  refine g_bipush (v := (nI 9)) hX dX3_ringer_7 (by decide) ?_
  refine g_callS (As := [.int b, .int (nI 0), .int (nI 9)]) hX dX3_ringer_9 cb_X3_requireWithin ml_X3_37 st_X3_requireWithin rfl rfl (kX3_requireWithin_x hst (hz)) (Nat.le_of_ble_eq_true rfl) (Nat.le_of_ble_eq_true rfl) (by omega) (by omega) (Nat.le_of_ble_eq_true rfl) ?_ ?_
  · refine px ?_
    refine g_out hX hr hE.1 (by omega) (by omega) ?_
    exact ⟨rfl, rfl, rfl⟩
  · exact fun _ _ _ _ h => h.elim
set_option maxRecDepth 20000 in
theorem kX3_ringer_v {l : Launch} {K : gw_K} (hst : l.stackTraces = false) {rc mc n : Nat} {dy tch frs : Int32} {h : gw_H} {a : Nat} {b d : Int32} (r0 : h 0 = (oB 3 [.ref 1, .ref 10, .ref 19, .ref 24, .int (nI mc), .int tch, .int frs])) (f0 : h 1 = (oB 2 [.ref (1 + 1), .ref (1 + 2), .ref (1 + 3), .ref (1 + 4), .ref (1 + 5), .ref (1 + 6), .ref (1 + 7), .ref (1 + 8), .int (nI rc), .int dy])) (ha : a < 4) (hy : ¬ (b < nI 0 ∨ nI 9 < b)) (hz : d < nI 0 ∨ nI 99 < d) : Ctr l K mX3_ringer [.ref 0, .int (nI a), .int b, .int d] h n 1 6 (fun _ _ _ => False) (PXQ "java/lang/IllegalArgumentException" h n) := by
  refine Ctr.of hst pn_X3_ringer (Nat.le_of_ble_eq_true rfl) (fun X hX hr hE => ?_)
  have hX : FX l K X cX3_ringer RX3 7 112 1 6 := hX
  show GW X 0 [some (.ref 0), some (.int (nI a)), some (.int b), some (.int d)] [] h n 0 0
  refine g_iload_n hX dX3_ringer_0 rfl rfl ?_
  refine g_iconst (v := (nI 4)) hX dX3_ringer_1 (by decide) ?_
  refine g_callS (As := [.int (nI a), .int (nI 4)]) hX dX3_ringer_2 cb_X3_requireIndex ml_X3_33 st_X3_requireIndex rfl rfl (kX3_requireIndex hst (gn_okI ha (by omega))) (Nat.le_of_ble_eq_true rfl) (Nat.le_of_ble_eq_true rfl) (by omega) (by omega) (Nat.le_of_ble_eq_true rfl) GX.no (pq ?_)
  show GW X 5 [some (.ref 0), some (.int (nI a)), some (.int b), some (.int d)] [] h n 0 0
  refine g_iload_n hX dX3_ringer_5 rfl rfl ?_
  refine g_iconst (v := (nI 0)) hX dX3_ringer_6 (by decide) ?_
  refine g_bipush (v := (nI 9)) hX dX3_ringer_7 (by decide) ?_
  refine g_callS (As := [.int b, .int (nI 0), .int (nI 9)]) hX dX3_ringer_9 cb_X3_requireWithin ml_X3_37 st_X3_requireWithin rfl rfl (kX3_requireWithin hst (hy)) (Nat.le_of_ble_eq_true rfl) (Nat.le_of_ble_eq_true rfl) (by omega) (by omega) (Nat.le_of_ble_eq_true rfl) GX.no (pq ?_)
  show GW X 12 [some (.ref 0), some (.int (nI a)), some (.int b), some (.int d)] [] h n 0 0
  refine g_iload_n hX dX3_ringer_12 rfl rfl ?_
  refine g_iconst (v := (nI 0)) hX dX3_ringer_13 (by decide) ?_
  refine g_bipush (v := (nI 99)) hX dX3_ringer_14 (by decide) ?_
  refine g_callS (As := [.int d, .int (nI 0), .int (nI 99)]) hX dX3_ringer_16 cb_X3_requireWithin ml_X3_37 st_X3_requireWithin rfl rfl (kX3_requireWithin_x hst (hz)) (Nat.le_of_ble_eq_true rfl) (Nat.le_of_ble_eq_true rfl) (by omega) (by omega) (Nat.le_of_ble_eq_true rfl) ?_ ?_
  · refine px ?_
    refine g_out hX hr hE.1 (by omega) (by omega) ?_
    exact ⟨rfl, rfl, rfl⟩
  · exact fun _ _ _ _ h => h.elim
set_option maxRecDepth 20000 in
theorem kX3_ringer_f {l : Launch} {K : gw_K} (hst : l.stackTraces = false) {rc mc n : Nat} {dy tch frs : Int32} {h : gw_H} {a : Nat} {b d : Int32} (r0 : h 0 = (oB 3 [.ref 1, .ref 10, .ref 19, .ref 24, .int (nI mc), .int tch, .int frs])) (f0 : h 1 = (oB 2 [.ref (1 + 1), .ref (1 + 2), .ref (1 + 3), .ref (1 + 4), .ref (1 + 5), .ref (1 + 6), .ref (1 + 7), .ref (1 + 8), .int (nI rc), .int dy])) (ha : a < 4) (hy : ¬ (b < nI 0 ∨ nI 9 < b)) (hz : ¬ (d < nI 0 ∨ nI 99 < d)) (hrc : rc = 20) : Ctr l K mX3_ringer [.ref 0, .int (nI a), .int b, .int d] h n 1 6 (fun _ _ _ => False) (PXQ "java/lang/IllegalStateException" h n) := by
  refine Ctr.of hst pn_X3_ringer (Nat.le_of_ble_eq_true rfl) (fun X hX hr hE => ?_)
  have hX : FX l K X cX3_ringer RX3 7 112 1 6 := hX
  show GW X 0 [some (.ref 0), some (.int (nI a)), some (.int b), some (.int d)] [] h n 0 0
  refine g_iload_n hX dX3_ringer_0 rfl rfl ?_
  refine g_iconst (v := (nI 4)) hX dX3_ringer_1 (by decide) ?_
  refine g_callS (As := [.int (nI a), .int (nI 4)]) hX dX3_ringer_2 cb_X3_requireIndex ml_X3_33 st_X3_requireIndex rfl rfl (kX3_requireIndex hst (gn_okI ha (by omega))) (Nat.le_of_ble_eq_true rfl) (Nat.le_of_ble_eq_true rfl) (by omega) (by omega) (Nat.le_of_ble_eq_true rfl) GX.no (pq ?_)
  show GW X 5 [some (.ref 0), some (.int (nI a)), some (.int b), some (.int d)] [] h n 0 0
  refine g_iload_n hX dX3_ringer_5 rfl rfl ?_
  refine g_iconst (v := (nI 0)) hX dX3_ringer_6 (by decide) ?_
  refine g_bipush (v := (nI 9)) hX dX3_ringer_7 (by decide) ?_
  refine g_callS (As := [.int b, .int (nI 0), .int (nI 9)]) hX dX3_ringer_9 cb_X3_requireWithin ml_X3_37 st_X3_requireWithin rfl rfl (kX3_requireWithin hst (hy)) (Nat.le_of_ble_eq_true rfl) (Nat.le_of_ble_eq_true rfl) (by omega) (by omega) (Nat.le_of_ble_eq_true rfl) GX.no (pq ?_)
  show GW X 12 [some (.ref 0), some (.int (nI a)), some (.int b), some (.int d)] [] h n 0 0
  refine g_iload_n hX dX3_ringer_12 rfl rfl ?_
  refine g_iconst (v := (nI 0)) hX dX3_ringer_13 (by decide) ?_
  refine g_bipush (v := (nI 99)) hX dX3_ringer_14 (by decide) ?_
  refine g_callS (As := [.int d, .int (nI 0), .int (nI 99)]) hX dX3_ringer_16 cb_X3_requireWithin ml_X3_37 st_X3_requireWithin rfl rfl (kX3_requireWithin hst (hz)) (Nat.le_of_ble_eq_true rfl) (Nat.le_of_ble_eq_true rfl) (by omega) (by omega) (Nat.le_of_ble_eq_true rfl) GX.no (pq ?_)
  show GW X 19 [some (.ref 0), some (.int (nI a)), some (.int b), some (.int d)] [] h n 0 0
  refine g_aload_n hX dX3_ringer_19 rfl rfl ?_
  refine g_getf hX dX3_ringer_20 fl_X3_12 (r0) rfl ?_
  refine g_getf hX dX3_ringer_23 fl_X3_41 (f0) rfl ?_
  refine g_bipush (v := (nI 20)) hX dX3_ringer_26 (by decide) ?_
  refine g_icmp_ltN (tgt := 41) hX dX3_ringer_28 (by decide) (by omega) (fun c1 => absurd c1 (by omega)) (fun c1 => ?_)
  refine g_throwS hX hr hE.1 ts_45_47_49 dX3_ringer_31 dX3_ringer_34 dX3_ringer_35 dX3_ringer_37 dX3_ringer_40 (Nat.le_of_ble_eq_true rfl) (Nat.le_of_ble_eq_true rfl) (by omega) (by omega) ?_
  exact ⟨rfl, rfl, rfl⟩
set_option maxRecDepth 20000 in
theorem kX3_ringer {l : Launch} {K : gw_K} (hst : l.stackTraces = false) {rc mc n : Nat} {dy tch frs : Int32} {h : gw_H} {wd sk vt st : Nat → Int32} {a : Nat} {b d : Int32} (r0 : h 0 = (oB 3 [.ref 1, .ref 10, .ref 19, .ref 24, .int (nI mc), .int tch, .int frs])) (f0 : h 1 = (oB 2 [.ref (1 + 1), .ref (1 + 2), .ref (1 + 3), .ref (1 + 4), .ref (1 + 5), .ref (1 + 6), .ref (1 + 7), .ref (1 + 8), .int (nI rc), .int dy])) (fwd : h (1 + 1) = (aI 20 wd)) (fsk : h (1 + 2) = (aI 20 sk)) (fvt : h (1 + 3) = (aI 20 vt)) (fst : h (1 + 7) = (aI 20 st)) (ha : a < 4) (hy : ¬ (b < nI 0 ∨ nI 9 < b)) (hz : ¬ (d < nI 0 ∨ nI 99 < d)) (hrc : rc < 20) : Ctr l K mX3_ringer [.ref 0, .int (nI a), .int b, .int d] h n 1 6 (PQ (some (.int (nI rc))) (hs (hs (hs (hs (hs h 1 (oB 2 [.ref (1 + 1), .ref (1 + 2), .ref (1 + 3), .ref (1 + 4), .ref (1 + 5), .ref (1 + 6), .ref (1 + 7), .ref (1 + 8), .int (nI (rc + 1)), .int dy])) (1 + 1) (aI 20 (upd wd rc (nI a)))) (1 + 2) (aI 20 (upd sk rc b))) (1 + 3) (aI 20 (upd vt rc d))) (1 + 7) (aI 20 (upd st rc (-1)))) n) (PX0) := by
  refine Ctr.of hst pn_X3_ringer (Nat.le_of_ble_eq_true rfl) (fun X hX hr hE => ?_)
  have hX : FX l K X cX3_ringer RX3 7 112 1 6 := hX
  show GW X 0 [some (.ref 0), some (.int (nI a)), some (.int b), some (.int d)] [] h n 0 0
  refine g_iload_n hX dX3_ringer_0 rfl rfl ?_
  refine g_iconst (v := (nI 4)) hX dX3_ringer_1 (by decide) ?_
  refine g_callS (As := [.int (nI a), .int (nI 4)]) hX dX3_ringer_2 cb_X3_requireIndex ml_X3_33 st_X3_requireIndex rfl rfl (kX3_requireIndex hst (gn_okI ha (by omega))) (Nat.le_of_ble_eq_true rfl) (Nat.le_of_ble_eq_true rfl) (by omega) (by omega) (Nat.le_of_ble_eq_true rfl) GX.no (pq ?_)
  show GW X 5 [some (.ref 0), some (.int (nI a)), some (.int b), some (.int d)] [] h n 0 0
  refine g_iload_n hX dX3_ringer_5 rfl rfl ?_
  refine g_iconst (v := (nI 0)) hX dX3_ringer_6 (by decide) ?_
  refine g_bipush (v := (nI 9)) hX dX3_ringer_7 (by decide) ?_
  refine g_callS (As := [.int b, .int (nI 0), .int (nI 9)]) hX dX3_ringer_9 cb_X3_requireWithin ml_X3_37 st_X3_requireWithin rfl rfl (kX3_requireWithin hst (hy)) (Nat.le_of_ble_eq_true rfl) (Nat.le_of_ble_eq_true rfl) (by omega) (by omega) (Nat.le_of_ble_eq_true rfl) GX.no (pq ?_)
  show GW X 12 [some (.ref 0), some (.int (nI a)), some (.int b), some (.int d)] [] h n 0 0
  refine g_iload_n hX dX3_ringer_12 rfl rfl ?_
  refine g_iconst (v := (nI 0)) hX dX3_ringer_13 (by decide) ?_
  refine g_bipush (v := (nI 99)) hX dX3_ringer_14 (by decide) ?_
  refine g_callS (As := [.int d, .int (nI 0), .int (nI 99)]) hX dX3_ringer_16 cb_X3_requireWithin ml_X3_37 st_X3_requireWithin rfl rfl (kX3_requireWithin hst (hz)) (Nat.le_of_ble_eq_true rfl) (Nat.le_of_ble_eq_true rfl) (by omega) (by omega) (Nat.le_of_ble_eq_true rfl) GX.no (pq ?_)
  show GW X 19 [some (.ref 0), some (.int (nI a)), some (.int b), some (.int d)] [] h n 0 0
  refine g_aload_n hX dX3_ringer_19 rfl rfl ?_
  refine g_getf hX dX3_ringer_20 fl_X3_12 (r0) rfl ?_
  refine g_getf hX dX3_ringer_23 fl_X3_41 (f0) rfl ?_
  refine g_bipush (v := (nI 20)) hX dX3_ringer_26 (by decide) ?_
  refine g_icmp_ltN (tgt := 41) hX dX3_ringer_28 (by decide) (by omega) (fun c1 => ?_) (fun c1 => absurd c1 (by omega))
  refine g_aload_n hX dX3_ringer_41 rfl rfl ?_
  refine g_getf hX dX3_ringer_42 fl_X3_12 (r0) rfl ?_
  refine g_iload_n hX dX3_ringer_45 rfl rfl ?_
  refine g_iload_n hX dX3_ringer_46 rfl rfl ?_
  refine g_iload_n hX dX3_ringer_47 rfl rfl ?_
  refine g_callV (As := [.int (nI a), .int b, .int d]) hX dX3_ringer_48 cb_X2_enrol ml_X3_52 im_X2_enrol se_X2_enrol rfl rfl (f0) ⟨_, rfl, rfl⟩ (kX2_enrol hst (f0) (fwd) (fsk) (fvt) (fst) (by omega)) (Nat.le_of_ble_eq_true rfl) (Nat.le_of_ble_eq_true rfl) (by omega) (by omega) (Nat.le_of_ble_eq_true rfl) GX.no (pq ?_)
  show GW X 51 [some (.ref 0), some (.int (nI a)), some (.int b), some (.int d)] [.int (nI rc)] (hs (hs (hs (hs (hs h (1 + 1) (aI 20 (upd wd rc (nI a)))) (1 + 2) (aI 20 (upd sk rc b))) (1 + 3) (aI 20 (upd vt rc d))) (1 + 7) (aI 20 (upd st rc (-1)))) 1 (oB 2 [.ref (1 + 1), .ref (1 + 2), .ref (1 + 3), .ref (1 + 4), .ref (1 + 5), .ref (1 + 6), .ref (1 + 7), .ref (1 + 8), .int (nI (rc + 1)), .int dy])) n 0 0
  refine g_ireturn hX hr dX3_ringer_51 (by omega) (by omega)  ?_
  exact ⟨rfl, (by first | (rw [hs_cm (k := 1) (j := 1 + 7) _ _ _ (by omega), hs_cm (k := 1) (j := 1 + 3) _ _ _ (by omega), hs_cm (k := 1) (j := 1 + 2) _ _ _ (by omega), hs_cm (k := 1) (j := 1 + 1) _ _ _ (by omega)]; done) | (rw [hs_cm (k := 1) (j := 1 + 7) _ _ _ (by omega), hs_cm (k := 1) (j := 1 + 3) _ _ _ (by omega), hs_cm (k := 1) (j := 1 + 2) _ _ _ (by omega), hs_cm (k := 1) (j := 1 + 1) _ _ _ (by omega)]; rfl)), rfl⟩
set_option maxRecDepth 20000 in
theorem kX3_vote_r {l : Launch} {K : gw_K} (hst : l.stackTraces = false) {rc mc n : Nat} {dy tch frs : Int32} {h : gw_H} {a b : Int32} (r0 : h 0 = (oB 3 [.ref 1, .ref 10, .ref 19, .ref 24, .int (nI mc), .int tch, .int frs])) (f0 : h 1 = (oB 2 [.ref (1 + 1), .ref (1 + 2), .ref (1 + 3), .ref (1 + 4), .ref (1 + 5), .ref (1 + 6), .ref (1 + 7), .ref (1 + 8), .int (nI rc), .int dy])) (hz : a < 0 ∨ nI rc ≤ a) : Ctr l K mX3_vote [.ref 0, .int a, .int b] h n 1 6 (fun _ _ _ => False) (PXQ "java/lang/IndexOutOfBoundsException" h n) := by
  refine Ctr.of hst pn_X3_vote (Nat.le_of_ble_eq_true rfl) (fun X hX hr hE => ?_)
  have hX : FX l K X cX3_vote RX3 7 112 1 6 := hX
  show GW X 0 [some (.ref 0), some (.int a), some (.int b)] [] h n 0 0
  refine g_iload_n hX dX3_vote_0 rfl rfl ?_
  refine g_aload_n hX dX3_vote_1 rfl rfl ?_
  refine g_getf hX dX3_vote_2 fl_X3_12 (r0) rfl ?_
  refine g_getf hX dX3_vote_5 fl_X3_41 (f0) rfl ?_
  refine g_callS (As := [.int a, .int (nI rc)]) hX dX3_vote_8 cb_X3_requireIndex ml_X3_33 st_X3_requireIndex rfl rfl (kX3_requireIndex_x hst (hz)) (Nat.le_of_ble_eq_true rfl) (Nat.le_of_ble_eq_true rfl) (by omega) (by omega) (Nat.le_of_ble_eq_true rfl) ?_ ?_
  · refine px ?_
    refine g_out hX hr hE.1 (by omega) (by omega) ?_
    exact ⟨rfl, rfl, rfl⟩
  · exact fun _ _ _ _ h => h.elim
set_option maxRecDepth 20000 in
theorem kX3_vote_m {l : Launch} {K : gw_K} (hst : l.stackTraces = false) {rc mc n : Nat} {dy tch frs : Int32} {h : gw_H} {a : Nat} {b : Int32} (r0 : h 0 = (oB 3 [.ref 1, .ref 10, .ref 19, .ref 24, .int (nI mc), .int tch, .int frs])) (f0 : h 1 = (oB 2 [.ref (1 + 1), .ref (1 + 2), .ref (1 + 3), .ref (1 + 4), .ref (1 + 5), .ref (1 + 6), .ref (1 + 7), .ref (1 + 8), .int (nI rc), .int dy])) (hrc : rc ≤ 20) (ha : a < rc) (hz : b < -99 ∨ nI 99 < b) : Ctr l K mX3_vote [.ref 0, .int (nI a), .int b] h n 1 6 (fun _ _ _ => False) (PXQ "java/lang/IllegalArgumentException" h n) := by
  refine Ctr.of hst pn_X3_vote (Nat.le_of_ble_eq_true rfl) (fun X hX hr hE => ?_)
  have hX : FX l K X cX3_vote RX3 7 112 1 6 := hX
  show GW X 0 [some (.ref 0), some (.int (nI a)), some (.int b)] [] h n 0 0
  refine g_iload_n hX dX3_vote_0 rfl rfl ?_
  refine g_aload_n hX dX3_vote_1 rfl rfl ?_
  refine g_getf hX dX3_vote_2 fl_X3_12 (r0) rfl ?_
  refine g_getf hX dX3_vote_5 fl_X3_41 (f0) rfl ?_
  refine g_callS (As := [.int (nI a), .int (nI rc)]) hX dX3_vote_8 cb_X3_requireIndex ml_X3_33 st_X3_requireIndex rfl rfl (kX3_requireIndex hst (gn_okI ha (by omega))) (Nat.le_of_ble_eq_true rfl) (Nat.le_of_ble_eq_true rfl) (by omega) (by omega) (Nat.le_of_ble_eq_true rfl) GX.no (pq ?_)
  show GW X 11 [some (.ref 0), some (.int (nI a)), some (.int b)] [] h n 0 0
  refine g_iload_n hX dX3_vote_11 rfl rfl ?_
  refine g_bipush (v := (-99)) hX dX3_vote_12 (by decide) ?_
  refine g_bipush (v := (nI 99)) hX dX3_vote_14 (by decide) ?_
  refine g_callS (As := [.int b, .int (-99), .int (nI 99)]) hX dX3_vote_16 cb_X3_requireWithin ml_X3_37 st_X3_requireWithin rfl rfl (kX3_requireWithin_x hst (hz)) (Nat.le_of_ble_eq_true rfl) (Nat.le_of_ble_eq_true rfl) (by omega) (by omega) (Nat.le_of_ble_eq_true rfl) ?_ ?_
  · refine px ?_
    refine g_out hX hr hE.1 (by omega) (by omega) ?_
    exact ⟨rfl, rfl, rfl⟩
  · exact fun _ _ _ _ h => h.elim
set_option maxRecDepth 20000 in
theorem kX3_vote {l : Launch} {K : gw_K} (hst : l.stackTraces = false) {rc mc n : Nat} {dy tch frs : Int32} {h : gw_H} {vt : Nat → Int32} {a : Nat} {b : Int32} (r0 : h 0 = (oB 3 [.ref 1, .ref 10, .ref 19, .ref 24, .int (nI mc), .int tch, .int frs])) (f0 : h 1 = (oB 2 [.ref (1 + 1), .ref (1 + 2), .ref (1 + 3), .ref (1 + 4), .ref (1 + 5), .ref (1 + 6), .ref (1 + 7), .ref (1 + 8), .int (nI rc), .int dy])) (fvt : h (1 + 3) = (aI 20 vt)) (hrc : rc ≤ 20) (ha : a < rc) (hz : ¬ (b < -99 ∨ nI 99 < b)) : Ctr l K mX3_vote [.ref 0, .int (nI a), .int b] h n 1 6 (PQ (some (.int (clampI (vt a + b)))) (hs h (1 + 3) (aI 20 (upd vt a (clampI (vt a + b))))) n) (PX0) := by
  refine Ctr.of hst pn_X3_vote (Nat.le_of_ble_eq_true rfl) (fun X hX hr hE => ?_)
  have hX : FX l K X cX3_vote RX3 7 112 1 6 := hX
  show GW X 0 [some (.ref 0), some (.int (nI a)), some (.int b)] [] h n 0 0
  refine g_iload_n hX dX3_vote_0 rfl rfl ?_
  refine g_aload_n hX dX3_vote_1 rfl rfl ?_
  refine g_getf hX dX3_vote_2 fl_X3_12 (r0) rfl ?_
  refine g_getf hX dX3_vote_5 fl_X3_41 (f0) rfl ?_
  refine g_callS (As := [.int (nI a), .int (nI rc)]) hX dX3_vote_8 cb_X3_requireIndex ml_X3_33 st_X3_requireIndex rfl rfl (kX3_requireIndex hst (gn_okI ha (by omega))) (Nat.le_of_ble_eq_true rfl) (Nat.le_of_ble_eq_true rfl) (by omega) (by omega) (Nat.le_of_ble_eq_true rfl) GX.no (pq ?_)
  show GW X 11 [some (.ref 0), some (.int (nI a)), some (.int b)] [] h n 0 0
  refine g_iload_n hX dX3_vote_11 rfl rfl ?_
  refine g_bipush (v := (-99)) hX dX3_vote_12 (by decide) ?_
  refine g_bipush (v := (nI 99)) hX dX3_vote_14 (by decide) ?_
  refine g_callS (As := [.int b, .int (-99), .int (nI 99)]) hX dX3_vote_16 cb_X3_requireWithin ml_X3_37 st_X3_requireWithin rfl rfl (kX3_requireWithin hst (hz)) (Nat.le_of_ble_eq_true rfl) (Nat.le_of_ble_eq_true rfl) (by omega) (by omega) (Nat.le_of_ble_eq_true rfl) GX.no (pq ?_)
  show GW X 19 [some (.ref 0), some (.int (nI a)), some (.int b)] [] h n 0 0
  refine g_aload_n hX dX3_vote_19 rfl rfl ?_
  refine g_getf hX dX3_vote_20 fl_X3_12 (r0) rfl ?_
  refine g_iload_n hX dX3_vote_23 rfl rfl ?_
  refine g_iload_n hX dX3_vote_24 rfl rfl ?_
  refine g_callV (As := [.int (nI a), .int b]) hX dX3_vote_25 cb_X2_changeVotes ml_X3_56 im_X2_changeVotes se_X2_changeVotes rfl rfl (f0) ⟨_, rfl, rfl⟩ (kX2_changeVotes hst (f0) (fvt) (by omega)) (Nat.le_of_ble_eq_true rfl) (Nat.le_of_ble_eq_true rfl) (by omega) (by omega) (Nat.le_of_ble_eq_true rfl) GX.no (pq ?_)
  show GW X 28 [some (.ref 0), some (.int (nI a)), some (.int b)] [] (hs h (1 + 3) (aI 20 (upd vt a (clampI (vt a + b))))) n 0 0
  refine g_aload_n hX dX3_vote_28 rfl rfl ?_
  refine g_getf hX dX3_vote_29 fl_X3_12 ((hs_ne (by omega)).trans (r0)) rfl ?_
  refine g_getf hX dX3_vote_32 fl_X3_59 ((hs_ne (by omega)).trans (f0)) rfl ?_
  refine g_iload_n hX dX3_vote_35 rfl rfl ?_
  refine g_iaload hX dX3_vote_36 (hs_eq _ _ _) (a) (by omega) rfl (by omega) ?_
  refine g_ireturn hX hr dX3_vote_37 (by omega) (by omega)  ?_
  exact ⟨by rw [pk_us], rfl, rfl⟩
set_option maxRecDepth 20000 in
theorem kX3_seat_s {l : Launch} {K : gw_K} (hst : l.stackTraces = false) {rc mc n : Nat} {dy tch frs : Int32} {h : gw_H} {a b d : Int32} (r0 : h 0 = (oB 3 [.ref 1, .ref 10, .ref 19, .ref 24, .int (nI mc), .int tch, .int frs])) (f0 : h 1 = (oB 2 [.ref (1 + 1), .ref (1 + 2), .ref (1 + 3), .ref (1 + 4), .ref (1 + 5), .ref (1 + 6), .ref (1 + 7), .ref (1 + 8), .int (nI rc), .int dy])) (hz : (a < 0 ∨ nI 3 ≤ a) ∨ (b < 0 ∨ nI 6 ≤ b)) : Ctr l K mX3_seat [.ref 0, .int a, .int b, .int d] h n 1 6 (fun _ _ _ => False) (PXQ "java/lang/IndexOutOfBoundsException" h n) := by
  refine Ctr.of hst pn_X3_seat (Nat.le_of_ble_eq_true rfl) (fun X hX hr hE => ?_)
  have hX : FX l K X cX3_seat RX3 8 132 1 6 := hX
  show GW X 0 [some (.ref 0), some (.int a), some (.int b), some (.int d), none, none] [] h n 0 0
  refine g_iload_n hX dX3_seat_0 rfl rfl ?_
  refine g_iload_n hX dX3_seat_1 rfl rfl ?_
  refine g_callS (As := [.int a, .int b]) hX dX3_seat_2 cb_X3_requireSeat ml_X3_63 st_X3_requireSeat rfl rfl (kX3_requireSeat_x hst (hz)) (Nat.le_of_ble_eq_true rfl) (Nat.le_of_ble_eq_true rfl) (by omega) (by omega) (Nat.le_of_ble_eq_true rfl) ?_ ?_
  · refine px ?_
    refine g_out hX hr hE.1 (by omega) (by omega) ?_
    exact ⟨rfl, rfl, rfl⟩
  · exact fun _ _ _ _ h => h.elim
set_option maxRecDepth 20000 in
theorem kX3_seat_w {l : Launch} {K : gw_K} (hst : l.stackTraces = false) {rc mc n : Nat} {dy tch frs : Int32} {h : gw_H} {a b : Nat} {d : Int32} (r0 : h 0 = (oB 3 [.ref 1, .ref 10, .ref 19, .ref 24, .int (nI mc), .int tch, .int frs])) (f0 : h 1 = (oB 2 [.ref (1 + 1), .ref (1 + 2), .ref (1 + 3), .ref (1 + 4), .ref (1 + 5), .ref (1 + 6), .ref (1 + 7), .ref (1 + 8), .int (nI rc), .int dy])) (ha : a < 3) (hb : b < 6) (hz : d < 0 ∨ nI 4 ≤ d) : Ctr l K mX3_seat [.ref 0, .int (nI a), .int (nI b), .int d] h n 1 6 (fun _ _ _ => False) (PXQ "java/lang/IndexOutOfBoundsException" h n) := by
  refine Ctr.of hst pn_X3_seat (Nat.le_of_ble_eq_true rfl) (fun X hX hr hE => ?_)
  have hX : FX l K X cX3_seat RX3 8 132 1 6 := hX
  show GW X 0 [some (.ref 0), some (.int (nI a)), some (.int (nI b)), some (.int d), none, none] [] h n 0 0
  refine g_iload_n hX dX3_seat_0 rfl rfl ?_
  refine g_iload_n hX dX3_seat_1 rfl rfl ?_
  refine g_callS (As := [.int (nI a), .int (nI b)]) hX dX3_seat_2 cb_X3_requireSeat ml_X3_63 st_X3_requireSeat rfl rfl (kX3_requireSeat hst (gn_okS ha hb)) (Nat.le_of_ble_eq_true rfl) (Nat.le_of_ble_eq_true rfl) (by omega) (by omega) (Nat.le_of_ble_eq_true rfl) GX.no (pq ?_)
  show GW X 5 [some (.ref 0), some (.int (nI a)), some (.int (nI b)), some (.int d), none, none] [] h n 0 0
  refine g_iload_n hX dX3_seat_5 rfl rfl ?_
  refine g_iconst (v := (nI 4)) hX dX3_seat_6 (by decide) ?_
  refine g_callS (As := [.int d, .int (nI 4)]) hX dX3_seat_7 cb_X3_requireIndex ml_X3_33 st_X3_requireIndex rfl rfl (kX3_requireIndex_x hst (hz)) (Nat.le_of_ble_eq_true rfl) (Nat.le_of_ble_eq_true rfl) (by omega) (by omega) (Nat.le_of_ble_eq_true rfl) ?_ ?_
  · refine px ?_
    refine g_out hX hr hE.1 (by omega) (by omega) ?_
    exact ⟨rfl, rfl, rfl⟩
  · exact fun _ _ _ _ h => h.elim
set_option maxRecDepth 20000 in
theorem kX3_seat {l : Launch} {K : gw_K} (hst : l.stackTraces = false) {rc mc n : Nat} {dy tch frs : Int32} {h : gw_H} {ws : Nat → Int32} {a b d : Nat} (r0 : h 0 = (oB 3 [.ref 1, .ref 10, .ref 19, .ref 24, .int (nI mc), .int tch, .int frs])) (f0 : h 1 = (oB 2 [.ref (1 + 1), .ref (1 + 2), .ref (1 + 3), .ref (1 + 4), .ref (1 + 5), .ref (1 + 6), .ref (1 + 7), .ref (1 + 8), .int (nI rc), .int dy])) (fws : h (1 + 8) = (aI 18 ws)) (ha : a < 3) (hb : b < 6) (hd4 : d < 4) : Ctr l K mX3_seat [.ref 0, .int (nI a), .int (nI b), .int (nI d)] h n 1 6 (PQ (some (.int (ws (a * 6 + b)))) (hs h (1 + 8) (aI 18 (upd ws (a * 6 + b) (nI d)))) n) (PX0) := by
  refine Ctr.of hst pn_X3_seat (Nat.le_of_ble_eq_true rfl) (fun X hX hr hE => ?_)
  have hX : FX l K X cX3_seat RX3 8 132 1 6 := hX
  show GW X 0 [some (.ref 0), some (.int (nI a)), some (.int (nI b)), some (.int (nI d)), none, none] [] h n 0 0
  refine g_iload_n hX dX3_seat_0 rfl rfl ?_
  refine g_iload_n hX dX3_seat_1 rfl rfl ?_
  refine g_callS (As := [.int (nI a), .int (nI b)]) hX dX3_seat_2 cb_X3_requireSeat ml_X3_63 st_X3_requireSeat rfl rfl (kX3_requireSeat hst (gn_okS ha hb)) (Nat.le_of_ble_eq_true rfl) (Nat.le_of_ble_eq_true rfl) (by omega) (by omega) (Nat.le_of_ble_eq_true rfl) GX.no (pq ?_)
  show GW X 5 [some (.ref 0), some (.int (nI a)), some (.int (nI b)), some (.int (nI d)), none, none] [] h n 0 0
  refine g_iload_n hX dX3_seat_5 rfl rfl ?_
  refine g_iconst (v := (nI 4)) hX dX3_seat_6 (by decide) ?_
  refine g_callS (As := [.int (nI d), .int (nI 4)]) hX dX3_seat_7 cb_X3_requireIndex ml_X3_33 st_X3_requireIndex rfl rfl (kX3_requireIndex hst (gn_okI hd4 (by omega))) (Nat.le_of_ble_eq_true rfl) (Nat.le_of_ble_eq_true rfl) (by omega) (by omega) (Nat.le_of_ble_eq_true rfl) GX.no (pq ?_)
  show GW X 10 [some (.ref 0), some (.int (nI a)), some (.int (nI b)), some (.int (nI d)), none, none] [] h n 0 0
  refine g_iload_n hX dX3_seat_10 rfl rfl ?_
  refine g_iload_n hX dX3_seat_11 rfl rfl ?_
  refine g_callS (As := [.int (nI a), .int (nI b)]) hX dX3_seat_12 cb_X3_seatNumber ml_X3_66 st_X3_seatNumber rfl rfl (kX3_seatNumber hst) (Nat.le_of_ble_eq_true rfl) (Nat.le_of_ble_eq_true rfl) (by omega) (by omega) (Nat.le_of_ble_eq_true rfl) GX.no (pq ?_)
  show GW X 15 [some (.ref 0), some (.int (nI a)), some (.int (nI b)), some (.int (nI d)), none, none] [.int (nI (a * 6 + b))] h n 0 0
  refine g_istore hX dX3_seat_15 (Nat.le_of_ble_eq_true rfl) rfl ?_
  refine g_aload_n hX dX3_seat_17 rfl rfl ?_
  refine g_getf hX dX3_seat_18 fl_X3_12 (r0) rfl ?_
  refine g_getf hX dX3_seat_21 fl_X3_70 (f0) rfl ?_
  refine g_iload hX dX3_seat_24 rfl ?_
  refine g_iaload hX dX3_seat_26 (fws) (a * 6 + b) (by omega) rfl (by omega) ?_
  refine g_istore hX dX3_seat_27 (Nat.le_of_ble_eq_true rfl) rfl ?_
  refine g_aload_n hX dX3_seat_29 rfl rfl ?_
  refine g_getf hX dX3_seat_30 fl_X3_12 (r0) rfl ?_
  refine g_getf hX dX3_seat_33 fl_X3_70 (f0) rfl ?_
  refine g_iload hX dX3_seat_36 rfl ?_
  refine g_iload_n hX dX3_seat_38 rfl rfl ?_
  refine g_iastore hX dX3_seat_39 (fws) (a * 6 + b) (by omega) rfl (by omega) ?_
  refine g_iload hX dX3_seat_40 rfl ?_
  refine g_ireturn hX hr dX3_seat_42 (by omega) (by omega)  ?_
  exact ⟨rfl, rfl, rfl⟩
set_option maxRecDepth 20000 in
theorem kX3_elect_b {l : Launch} {K : gw_K} (hst : l.stackTraces = false) {rc mc n : Nat} {dy tch frs : Int32} {h : gw_H} {a : Int32} (r0 : h 0 = (oB 3 [.ref 1, .ref 10, .ref 19, .ref 24, .int (nI mc), .int tch, .int frs])) (f0 : h 1 = (oB 2 [.ref (1 + 1), .ref (1 + 2), .ref (1 + 3), .ref (1 + 4), .ref (1 + 5), .ref (1 + 6), .ref (1 + 7), .ref (1 + 8), .int (nI rc), .int dy])) (hz : a < 0 ∨ nI 3 ≤ a) : Ctr l K mX3_elect [.ref 0, .int a] h n 1 6 (fun _ _ _ => False) (PXQ "java/lang/IndexOutOfBoundsException" h n) := by
  refine Ctr.of hst pn_X3_elect (Nat.le_of_ble_eq_true rfl) (fun X hX hr hE => ?_)
  have hX : FX l K X cX3_elect RX3 7 111 1 6 := hX
  show GW X 0 [some (.ref 0), some (.int a)] [] h n 0 0
  refine g_iload_n hX dX3_elect_0 rfl rfl ?_
  refine g_iconst (v := (nI 3)) hX dX3_elect_1 (by decide) ?_
  refine g_callS (As := [.int a, .int (nI 3)]) hX dX3_elect_2 cb_X3_requireIndex ml_X3_33 st_X3_requireIndex rfl rfl (kX3_requireIndex_x hst (hz)) (Nat.le_of_ble_eq_true rfl) (Nat.le_of_ble_eq_true rfl) (by omega) (by omega) (Nat.le_of_ble_eq_true rfl) ?_ ?_
  · refine px ?_
    refine g_out hX hr hE.1 (by omega) (by omega) ?_
    exact ⟨rfl, rfl, rfl⟩
  · exact fun _ _ _ _ h => h.elim
set_option maxRecDepth 20000 in
theorem kX3_elect {l : Launch} {K : gw_K} (hst : l.stackTraces = false) {rc mc n : Nat} {dy tch frs : Int32} {h : gw_H} {wd vt st ws : Nat → Int32} {a : Nat} (r0 : h 0 = (oB 3 [.ref 1, .ref 10, .ref 19, .ref 24, .int (nI mc), .int tch, .int frs])) (f0 : h 1 = (oB 2 [.ref (1 + 1), .ref (1 + 2), .ref (1 + 3), .ref (1 + 4), .ref (1 + 5), .ref (1 + 6), .ref (1 + 7), .ref (1 + 8), .int (nI rc), .int dy])) (fwd : h (1 + 1) = (aI 20 wd)) (fvt : h (1 + 3) = (aI 20 vt)) (fst : h (1 + 7) = (aI 20 st)) (fws : h (1 + 8) = (aI 18 ws)) (hrc : rc ≤ 20) (ha : a < 3) : Ctr l K mX3_elect [.ref 0, .int (nI a)] h n 1 6 (PQ (some (.int (cntI (elB wd vt ws rc st a) rc (nI a)))) (hs h (1 + 7) (aI 20 (elB wd vt ws rc st a))) n) (PX0) := by
  refine Ctr.of hst pn_X3_elect (Nat.le_of_ble_eq_true rfl) (fun X hX hr hE => ?_)
  have hX : FX l K X cX3_elect RX3 7 111 1 6 := hX
  show GW X 0 [some (.ref 0), some (.int (nI a))] [] h n 0 0
  refine g_iload_n hX dX3_elect_0 rfl rfl ?_
  refine g_iconst (v := (nI 3)) hX dX3_elect_1 (by decide) ?_
  refine g_callS (As := [.int (nI a), .int (nI 3)]) hX dX3_elect_2 cb_X3_requireIndex ml_X3_33 st_X3_requireIndex rfl rfl (kX3_requireIndex hst (gn_okI ha (by omega))) (Nat.le_of_ble_eq_true rfl) (Nat.le_of_ble_eq_true rfl) (by omega) (by omega) (Nat.le_of_ble_eq_true rfl) GX.no (pq ?_)
  show GW X 5 [some (.ref 0), some (.int (nI a))] [] h n 0 0
  refine g_aload_n hX dX3_elect_5 rfl rfl ?_
  refine g_getf hX dX3_elect_6 fl_X3_12 (r0) rfl ?_
  refine g_iload_n hX dX3_elect_9 rfl rfl ?_
  refine g_callV (As := [.int (nI a)]) hX dX3_elect_10 cb_X2_electBand ml_X3_73 im_X2_electBand se_X2_electBand rfl rfl (f0) ⟨_, rfl, rfl⟩ (kX2_electBand hst (f0) (fwd) (fvt) (fst) (fws) (by omega) (by omega)) (Nat.le_of_ble_eq_true rfl) (Nat.le_of_ble_eq_true rfl) (by omega) (by omega) (Nat.le_of_ble_eq_true rfl) GX.no (pq ?_)
  show GW X 13 [some (.ref 0), some (.int (nI a))] [] (hs h (1 + 7) (aI 20 (elB wd vt ws rc st a))) n 0 0
  refine g_aload_n hX dX3_elect_13 rfl rfl ?_
  refine g_getf hX dX3_elect_14 fl_X3_12 ((hs_ne (by omega)).trans (r0)) rfl ?_
  refine g_iload_n hX dX3_elect_17 rfl rfl ?_
  refine g_callV (As := [.int (nI a)]) hX dX3_elect_18 cb_X2_ringersIn ml_X3_77 im_X2_ringersIn se_X2_ringersIn rfl rfl ((hs_ne (by omega)).trans (f0)) ⟨_, rfl, rfl⟩ (kX2_ringersIn hst ((hs_ne (by omega)).trans (f0)) (hs_eq _ _ _) (by omega)) (Nat.le_of_ble_eq_true rfl) (Nat.le_of_ble_eq_true rfl) (by omega) (by omega) (Nat.le_of_ble_eq_true rfl) GX.no (pq ?_)
  show GW X 21 [some (.ref 0), some (.int (nI a))] [.int (cntI (elB wd vt ws rc st a) rc (nI a))] (hs h (1 + 7) (aI 20 (elB wd vt ws rc st a))) n 0 0
  refine g_ireturn hX hr dX3_elect_21 (by omega) (by omega)  ?_
  exact ⟨rfl, rfl, rfl⟩
set_option maxRecDepth 20000 in
theorem kX3_put_s {l : Launch} {K : gw_K} (hst : l.stackTraces = false) {rc mc n : Nat} {dy tch frs : Int32} {h : gw_H} {a b d : Int32} (r0 : h 0 = (oB 3 [.ref 1, .ref 10, .ref 19, .ref 24, .int (nI mc), .int tch, .int frs])) (f0 : h 1 = (oB 2 [.ref (1 + 1), .ref (1 + 2), .ref (1 + 3), .ref (1 + 4), .ref (1 + 5), .ref (1 + 6), .ref (1 + 7), .ref (1 + 8), .int (nI rc), .int dy])) (hz : (a < 0 ∨ nI 3 ≤ a) ∨ (b < 0 ∨ nI 6 ≤ b)) : Ctr l K mX3_put [.ref 0, .int a, .int b, .int d] h n 1 6 (fun _ _ _ => False) (PXQ "java/lang/IndexOutOfBoundsException" h n) := by
  refine Ctr.of hst pn_X3_put (Nat.le_of_ble_eq_true rfl) (fun X hX hr hE => ?_)
  have hX : FX l K X cX3_put RX3 8 132 1 6 := hX
  show GW X 0 [some (.ref 0), some (.int a), some (.int b), some (.int d), none] [] h n 0 0
  refine g_iload_n hX dX3_put_0 rfl rfl ?_
  refine g_iload_n hX dX3_put_1 rfl rfl ?_
  refine g_callS (As := [.int a, .int b]) hX dX3_put_2 cb_X3_requireSeat ml_X3_63 st_X3_requireSeat rfl rfl (kX3_requireSeat_x hst (hz)) (Nat.le_of_ble_eq_true rfl) (Nat.le_of_ble_eq_true rfl) (by omega) (by omega) (Nat.le_of_ble_eq_true rfl) ?_ ?_
  · refine px ?_
    refine g_out hX hr hE.1 (by omega) (by omega) ?_
    exact ⟨rfl, rfl, rfl⟩
  · exact fun _ _ _ _ h => h.elim
set_option maxRecDepth 20000 in
theorem kX3_put_r {l : Launch} {K : gw_K} (hst : l.stackTraces = false) {rc mc n : Nat} {dy tch frs : Int32} {h : gw_H} {a b : Nat} {d : Int32} (r0 : h 0 = (oB 3 [.ref 1, .ref 10, .ref 19, .ref 24, .int (nI mc), .int tch, .int frs])) (f0 : h 1 = (oB 2 [.ref (1 + 1), .ref (1 + 2), .ref (1 + 3), .ref (1 + 4), .ref (1 + 5), .ref (1 + 6), .ref (1 + 7), .ref (1 + 8), .int (nI rc), .int dy])) (ha : a < 3) (hb : b < 6) (hz : d < 0 ∨ nI rc ≤ d) : Ctr l K mX3_put [.ref 0, .int (nI a), .int (nI b), .int d] h n 1 6 (fun _ _ _ => False) (PXQ "java/lang/IndexOutOfBoundsException" h n) := by
  refine Ctr.of hst pn_X3_put (Nat.le_of_ble_eq_true rfl) (fun X hX hr hE => ?_)
  have hX : FX l K X cX3_put RX3 8 132 1 6 := hX
  show GW X 0 [some (.ref 0), some (.int (nI a)), some (.int (nI b)), some (.int d), none] [] h n 0 0
  refine g_iload_n hX dX3_put_0 rfl rfl ?_
  refine g_iload_n hX dX3_put_1 rfl rfl ?_
  refine g_callS (As := [.int (nI a), .int (nI b)]) hX dX3_put_2 cb_X3_requireSeat ml_X3_63 st_X3_requireSeat rfl rfl (kX3_requireSeat hst (gn_okS ha hb)) (Nat.le_of_ble_eq_true rfl) (Nat.le_of_ble_eq_true rfl) (by omega) (by omega) (Nat.le_of_ble_eq_true rfl) GX.no (pq ?_)
  show GW X 5 [some (.ref 0), some (.int (nI a)), some (.int (nI b)), some (.int d), none] [] h n 0 0
  refine g_iload_n hX dX3_put_5 rfl rfl ?_
  refine g_aload_n hX dX3_put_6 rfl rfl ?_
  refine g_getf hX dX3_put_7 fl_X3_12 (r0) rfl ?_
  refine g_getf hX dX3_put_10 fl_X3_41 (f0) rfl ?_
  refine g_callS (As := [.int d, .int (nI rc)]) hX dX3_put_13 cb_X3_requireIndex ml_X3_33 st_X3_requireIndex rfl rfl (kX3_requireIndex_x hst (hz)) (Nat.le_of_ble_eq_true rfl) (Nat.le_of_ble_eq_true rfl) (by omega) (by omega) (Nat.le_of_ble_eq_true rfl) ?_ ?_
  · refine px ?_
    refine g_out hX hr hE.1 (by omega) (by omega) ?_
    exact ⟨rfl, rfl, rfl⟩
  · exact fun _ _ _ _ h => h.elim
set_option maxRecDepth 20000 in
theorem kX3_put {l : Launch} {K : gw_K} (hst : l.stackTraces = false) {rc mc n : Nat} {dy tch frs : Int32} {h : gw_H} {st ws : Nat → Int32} {a b d : Nat} (r0 : h 0 = (oB 3 [.ref 1, .ref 10, .ref 19, .ref 24, .int (nI mc), .int tch, .int frs])) (f0 : h 1 = (oB 2 [.ref (1 + 1), .ref (1 + 2), .ref (1 + 3), .ref (1 + 4), .ref (1 + 5), .ref (1 + 6), .ref (1 + 7), .ref (1 + 8), .int (nI rc), .int dy])) (fst : h (1 + 7) = (aI 20 st)) (fws : h (1 + 8) = (aI 18 ws)) (hrc : rc ≤ 20) (ha : a < 3) (hb : b < 6) (hd : d < rc) : Ctr l K mX3_put [.ref 0, .int (nI a), .int (nI b), .int (nI d)] h n 1 6 (fun rv h' n' => (atI st rc (nI (a * 6 + b)) = -1 ∧ st d = -1) ∧ rv = some (.int (ws (a * 6 + b))) ∧ h' = hs h (1 + 7) (aI 20 (upd st d (nI (a * 6 + b)))) ∧ n' = n) (fun E h' n' => ¬ (atI st rc (nI (a * 6 + b)) = -1 ∧ st d = -1) ∧ E = "java/lang/IllegalStateException" ∧ h' = h ∧ n' = n) := by
  refine Ctr.of hst pn_X3_put (Nat.le_of_ble_eq_true rfl) (fun X hX hr hE => ?_)
  have hX : FX l K X cX3_put RX3 8 132 1 6 := hX
  show GW X 0 [some (.ref 0), some (.int (nI a)), some (.int (nI b)), some (.int (nI d)), none] [] h n 0 0
  refine g_iload_n hX dX3_put_0 rfl rfl ?_
  refine g_iload_n hX dX3_put_1 rfl rfl ?_
  refine g_callS (As := [.int (nI a), .int (nI b)]) hX dX3_put_2 cb_X3_requireSeat ml_X3_63 st_X3_requireSeat rfl rfl (kX3_requireSeat hst (gn_okS ha hb)) (Nat.le_of_ble_eq_true rfl) (Nat.le_of_ble_eq_true rfl) (by omega) (by omega) (Nat.le_of_ble_eq_true rfl) GX.no (pq ?_)
  show GW X 5 [some (.ref 0), some (.int (nI a)), some (.int (nI b)), some (.int (nI d)), none] [] h n 0 0
  refine g_iload_n hX dX3_put_5 rfl rfl ?_
  refine g_aload_n hX dX3_put_6 rfl rfl ?_
  refine g_getf hX dX3_put_7 fl_X3_12 (r0) rfl ?_
  refine g_getf hX dX3_put_10 fl_X3_41 (f0) rfl ?_
  refine g_callS (As := [.int (nI d), .int (nI rc)]) hX dX3_put_13 cb_X3_requireIndex ml_X3_33 st_X3_requireIndex rfl rfl (kX3_requireIndex hst (gn_okI hd (by omega))) (Nat.le_of_ble_eq_true rfl) (Nat.le_of_ble_eq_true rfl) (by omega) (by omega) (Nat.le_of_ble_eq_true rfl) GX.no (pq ?_)
  show GW X 16 [some (.ref 0), some (.int (nI a)), some (.int (nI b)), some (.int (nI d)), none] [] h n 0 0
  refine g_iload_n hX dX3_put_16 rfl rfl ?_
  refine g_iload_n hX dX3_put_17 rfl rfl ?_
  refine g_callS (As := [.int (nI a), .int (nI b)]) hX dX3_put_18 cb_X3_seatNumber ml_X3_66 st_X3_seatNumber rfl rfl (kX3_seatNumber hst) (Nat.le_of_ble_eq_true rfl) (Nat.le_of_ble_eq_true rfl) (by omega) (by omega) (Nat.le_of_ble_eq_true rfl) GX.no (pq ?_)
  show GW X 21 [some (.ref 0), some (.int (nI a)), some (.int (nI b)), some (.int (nI d)), none] [.int (nI (a * 6 + b))] h n 0 0
  refine g_istore hX dX3_put_21 (Nat.le_of_ble_eq_true rfl) rfl ?_
  refine g_aload_n hX dX3_put_23 rfl rfl ?_
  refine g_getf hX dX3_put_24 fl_X3_12 (r0) rfl ?_
  refine g_iload hX dX3_put_27 rfl ?_
  refine g_callV (As := [.int (nI (a * 6 + b))]) hX dX3_put_29 cb_X2_ringerAt ml_X3_81 im_X2_ringerAt se_X2_ringerAt rfl rfl (f0) ⟨_, rfl, rfl⟩ (kX2_ringerAt hst (f0) (fst) (by omega)) (Nat.le_of_ble_eq_true rfl) (Nat.le_of_ble_eq_true rfl) (by omega) (by omega) (Nat.le_of_ble_eq_true rfl) GX.no (pq ?_)
  show GW X 32 [some (.ref 0), some (.int (nI a)), some (.int (nI b)), some (.int (nI d)), some (.int (nI (a * 6 + b)))] [.int (atI st rc (nI (a * 6 + b)))] h n 0 0
  refine g_iconst (v := (-1)) hX dX3_put_32 (by decide) ?_
  refine g_icmp_eq (tgt := 46) hX dX3_put_33 (by decide) (fun c1 => ?_) (fun c1 => ?_)
  · refine g_aload_n hX dX3_put_46 rfl rfl ?_
    refine g_getf hX dX3_put_47 fl_X3_12 (r0) rfl ?_
    refine g_iload_n hX dX3_put_50 rfl rfl ?_
    refine g_callV (As := [.int (nI d)]) hX dX3_put_51 cb_X2_ringsBell ml_X3_86 im_X2_ringsBell se_X2_ringsBell rfl rfl (f0) ⟨_, rfl, rfl⟩ (kX2_ringsBell hst (f0) (fst) (by omega)) (Nat.le_of_ble_eq_true rfl) (Nat.le_of_ble_eq_true rfl) (by omega) (by omega) (Nat.le_of_ble_eq_true rfl) GX.no (pq ?_)
    show GW X 54 [some (.ref 0), some (.int (nI a)), some (.int (nI b)), some (.int (nI d)), some (.int (nI (a * 6 + b)))] [.int (if ¬ st d = -1 then nI 1 else nI 0)] h n 0 0
    refine g_ifB_eq (tgt := 67) hX dX3_put_54 (by decide) (fun c2 => ?_) (fun c2 => ?_)
    · refine g_aload_n hX dX3_put_67 rfl rfl ?_
      refine g_getf hX dX3_put_68 fl_X3_12 (r0) rfl ?_
      refine g_getf hX dX3_put_71 fl_X3_92 (f0) rfl ?_
      refine g_iload_n hX dX3_put_74 rfl rfl ?_
      refine g_iload hX dX3_put_75 rfl ?_
      refine g_iastore hX dX3_put_77 (fst) (d) (by omega) rfl (by omega) ?_
      refine g_aload_n hX dX3_put_78 rfl rfl ?_
      refine g_getf hX dX3_put_79 fl_X3_12 ((hs_ne (by omega)).trans (r0)) rfl ?_
      refine g_getf hX dX3_put_82 fl_X3_70 ((hs_ne (by omega)).trans (f0)) rfl ?_
      refine g_iload hX dX3_put_85 rfl ?_
      refine g_iaload hX dX3_put_87 ((hs_ne (by omega)).trans (fws)) (a * 6 + b) (by omega) rfl (by omega) ?_
      refine g_ireturn hX hr dX3_put_88 (by omega) (by omega)  ?_
      exact ⟨⟨c1, Classical.not_not.mp c2⟩, rfl, rfl, rfl⟩
    · refine g_throwS hX hr hE.1 ts_45_90_49 dX3_put_57 dX3_put_60 dX3_put_61 dX3_put_63 dX3_put_66 (Nat.le_of_ble_eq_true rfl) (Nat.le_of_ble_eq_true rfl) (by omega) (by omega) ?_
      exact ⟨fun q => c2 q.2, rfl, rfl, rfl⟩
  · refine g_throwS hX hr hE.1 ts_45_84_49 dX3_put_36 dX3_put_39 dX3_put_40 dX3_put_42 dX3_put_45 (Nat.le_of_ble_eq_true rfl) (Nat.le_of_ble_eq_true rfl) (by omega) (by omega) ?_
    exact ⟨fun q => c1 q.1, rfl, rfl, rfl⟩
set_option maxRecDepth 20000 in
theorem kX3_leave_r {l : Launch} {K : gw_K} (hst : l.stackTraces = false) {rc mc n : Nat} {dy tch frs : Int32} {h : gw_H} {a : Int32} (r0 : h 0 = (oB 3 [.ref 1, .ref 10, .ref 19, .ref 24, .int (nI mc), .int tch, .int frs])) (f0 : h 1 = (oB 2 [.ref (1 + 1), .ref (1 + 2), .ref (1 + 3), .ref (1 + 4), .ref (1 + 5), .ref (1 + 6), .ref (1 + 7), .ref (1 + 8), .int (nI rc), .int dy])) (hz : a < 0 ∨ nI rc ≤ a) : Ctr l K mX3_leave [.ref 0, .int a] h n 1 6 (fun _ _ _ => False) (PXQ "java/lang/IndexOutOfBoundsException" h n) := by
  refine Ctr.of hst pn_X3_leave (Nat.le_of_ble_eq_true rfl) (fun X hX hr hE => ?_)
  have hX : FX l K X cX3_leave RX3 7 111 1 6 := hX
  show GW X 0 [some (.ref 0), some (.int a), none] [] h n 0 0
  refine g_iload_n hX dX3_leave_0 rfl rfl ?_
  refine g_aload_n hX dX3_leave_1 rfl rfl ?_
  refine g_getf hX dX3_leave_2 fl_X3_12 (r0) rfl ?_
  refine g_getf hX dX3_leave_5 fl_X3_41 (f0) rfl ?_
  refine g_callS (As := [.int a, .int (nI rc)]) hX dX3_leave_8 cb_X3_requireIndex ml_X3_33 st_X3_requireIndex rfl rfl (kX3_requireIndex_x hst (hz)) (Nat.le_of_ble_eq_true rfl) (Nat.le_of_ble_eq_true rfl) (by omega) (by omega) (Nat.le_of_ble_eq_true rfl) ?_ ?_
  · refine px ?_
    refine g_out hX hr hE.1 (by omega) (by omega) ?_
    exact ⟨rfl, rfl, rfl⟩
  · exact fun _ _ _ _ h => h.elim
set_option maxRecDepth 20000 in
theorem kX3_leave {l : Launch} {K : gw_K} (hst : l.stackTraces = false) {rc mc n : Nat} {dy tch frs : Int32} {h : gw_H} {st : Nat → Int32} {a : Nat} (r0 : h 0 = (oB 3 [.ref 1, .ref 10, .ref 19, .ref 24, .int (nI mc), .int tch, .int frs])) (f0 : h 1 = (oB 2 [.ref (1 + 1), .ref (1 + 2), .ref (1 + 3), .ref (1 + 4), .ref (1 + 5), .ref (1 + 6), .ref (1 + 7), .ref (1 + 8), .int (nI rc), .int dy])) (fst : h (1 + 7) = (aI 20 st)) (hrc : rc ≤ 20) (ha : a < rc) : Ctr l K mX3_leave [.ref 0, .int (nI a)] h n 1 6 (fun rv h' n' => ¬ st a = -1 ∧ rv = some (.int (nI 10 * bandI (st a) + bellI (st a))) ∧ h' = hs h (1 + 7) (aI 20 (upd st a (-1))) ∧ n' = n) (fun E h' n' => st a = -1 ∧ E = "java/lang/IllegalStateException" ∧ h' = h ∧ n' = n) := by
  refine Ctr.of hst pn_X3_leave (Nat.le_of_ble_eq_true rfl) (fun X hX hr hE => ?_)
  have hX : FX l K X cX3_leave RX3 7 111 1 6 := hX
  show GW X 0 [some (.ref 0), some (.int (nI a)), none] [] h n 0 0
  refine g_iload_n hX dX3_leave_0 rfl rfl ?_
  refine g_aload_n hX dX3_leave_1 rfl rfl ?_
  refine g_getf hX dX3_leave_2 fl_X3_12 (r0) rfl ?_
  refine g_getf hX dX3_leave_5 fl_X3_41 (f0) rfl ?_
  refine g_callS (As := [.int (nI a), .int (nI rc)]) hX dX3_leave_8 cb_X3_requireIndex ml_X3_33 st_X3_requireIndex rfl rfl (kX3_requireIndex hst (gn_okI ha (by omega))) (Nat.le_of_ble_eq_true rfl) (Nat.le_of_ble_eq_true rfl) (by omega) (by omega) (Nat.le_of_ble_eq_true rfl) GX.no (pq ?_)
  show GW X 11 [some (.ref 0), some (.int (nI a)), none] [] h n 0 0
  refine g_aload_n hX dX3_leave_11 rfl rfl ?_
  refine g_getf hX dX3_leave_12 fl_X3_12 (r0) rfl ?_
  refine g_iload_n hX dX3_leave_15 rfl rfl ?_
  refine g_callV (As := [.int (nI a)]) hX dX3_leave_16 cb_X2_ringsBell ml_X3_86 im_X2_ringsBell se_X2_ringsBell rfl rfl (f0) ⟨_, rfl, rfl⟩ (kX2_ringsBell hst (f0) (fst) (by omega)) (Nat.le_of_ble_eq_true rfl) (Nat.le_of_ble_eq_true rfl) (by omega) (by omega) (Nat.le_of_ble_eq_true rfl) GX.no (pq ?_)
  show GW X 19 [some (.ref 0), some (.int (nI a)), none] [.int (if ¬ st a = -1 then nI 1 else nI 0)] h n 0 0
  refine g_ifB_ne (tgt := 32) hX dX3_leave_19 (by decide) (fun c1 => ?_) (fun c1 => ?_)
  · refine g_bipush (v := (nI 10)) hX dX3_leave_32 (by decide) ?_
    refine g_aload_n hX dX3_leave_34 rfl rfl ?_
    refine g_getf hX dX3_leave_35 fl_X3_12 (r0) rfl ?_
    refine g_iload_n hX dX3_leave_38 rfl rfl ?_
    refine g_callV (As := [.int (nI a)]) hX dX3_leave_39 cb_X2_bandOf ml_X3_97 im_X2_bandOf se_X2_bandOf rfl rfl (f0) ⟨_, rfl, rfl⟩ (kX2_bandOf hst (f0) (fst) (by omega)) (Nat.le_of_ble_eq_true rfl) (Nat.le_of_ble_eq_true rfl) (by omega) (by omega) (Nat.le_of_ble_eq_true rfl) GX.no (pq ?_)
    show GW X 42 [some (.ref 0), some (.int (nI a)), none] [.int (bandI (st a)), .int (nI 10)] h n 0 0
    refine g_imul hX dX3_leave_42 ?_
    refine g_aload_n hX dX3_leave_43 rfl rfl ?_
    refine g_getf hX dX3_leave_44 fl_X3_12 (r0) rfl ?_
    refine g_iload_n hX dX3_leave_47 rfl rfl ?_
    refine g_callV (As := [.int (nI a)]) hX dX3_leave_48 cb_X2_bellOf ml_X3_100 im_X2_bellOf se_X2_bellOf rfl rfl (f0) ⟨_, rfl, rfl⟩ (kX2_bellOf hst (f0) (fst) (by omega)) (Nat.le_of_ble_eq_true rfl) (Nat.le_of_ble_eq_true rfl) (by omega) (by omega) (Nat.le_of_ble_eq_true rfl) GX.no (pq ?_)
    show GW X 51 [some (.ref 0), some (.int (nI a)), none] [.int (bellI (st a)), .int ((nI 10) * (bandI (st a)))] h n 0 0
    refine g_iadd hX dX3_leave_51 ?_
    refine g_istore_n (i := 2) hX dX3_leave_52 rfl (Nat.le_of_ble_eq_true rfl) rfl ?_
    refine g_aload_n hX dX3_leave_53 rfl rfl ?_
    refine g_getf hX dX3_leave_54 fl_X3_12 (r0) rfl ?_
    refine g_getf hX dX3_leave_57 fl_X3_92 (f0) rfl ?_
    refine g_iload_n hX dX3_leave_60 rfl rfl ?_
    refine g_iconst (v := (-1)) hX dX3_leave_61 (by decide) ?_
    refine g_iastore hX dX3_leave_62 (fst) (a) (by omega) rfl (by omega) ?_
    refine g_iload_n hX dX3_leave_63 rfl rfl ?_
    refine g_ireturn hX hr dX3_leave_64 (by omega) (by omega)  ?_
    exact ⟨c1, rfl, rfl, rfl⟩
  · refine g_throwS hX hr hE.1 ts_45_95_49 dX3_leave_22 dX3_leave_25 dX3_leave_26 dX3_leave_28 dX3_leave_31 (Nat.le_of_ble_eq_true rfl) (Nat.le_of_ble_eq_true rfl) (by omega) (by omega) ?_
    exact ⟨Classical.not_not.mp c1, rfl, rfl, rfl⟩
set_option maxRecDepth 20000 in
theorem kX3_told0 {l : Launch} {K : gw_K} (hst : l.stackTraces = false) {rc mc n : Nat} {dy tch frs : Int32} {h : gw_H} {wd sk vt ti fa st : Nat → Int32} {a q : Nat} (r0 : h 0 = (oB 3 [.ref 1, .ref 10, .ref 19, .ref 24, .int (nI mc), .int tch, .int frs])) (f0 : h 1 = (oB 2 [.ref (1 + 1), .ref (1 + 2), .ref (1 + 3), .ref (1 + 4), .ref (1 + 5), .ref (1 + 6), .ref (1 + 7), .ref (1 + 8), .int (nI rc), .int dy])) (fwd : h (1 + 1) = (aI 20 wd)) (fsk : h (1 + 2) = (aI 20 sk)) (fvt : h (1 + 3) = (aI 20 vt)) (fti : h (1 + 4) = (aI 20 ti)) (ffa : h (1 + 5) = (aI 20 fa)) (fst : h (1 + 7) = (aI 20 st)) (hrc : rc ≤ 20) (ha : a < rc) (hq : q < 8) : Ctr l K mX3_told [.ref 0, .int (nI a), .int (nI q)] h n 0 0 (PQ (some (.int (tellI wd sk vt ti fa st rc a q))) h n) (PX0) := by
  refine Ctr.of hst pn_X3_told (Nat.le_of_ble_eq_true rfl) (fun X hX hr hE => ?_)
  have hX : FX l K X cX3_told RX3 7 111 0 0 := hX
  show GW X 0 [some (.ref 0), some (.int (nI a)), some (.int (nI q))] [] h n 0 0
  refine g_iload_n hX dX3_told_0 rfl rfl ?_
  refine g_aload_n hX dX3_told_1 rfl rfl ?_
  refine g_getf hX dX3_told_2 fl_X3_12 (r0) rfl ?_
  refine g_getf hX dX3_told_5 fl_X3_41 (f0) rfl ?_
  refine g_callS (As := [.int (nI a), .int (nI rc)]) hX dX3_told_8 cb_X3_requireIndex ml_X3_33 st_X3_requireIndex rfl rfl (kX3_requireIndex hst (gn_okI ha (by omega))) (Nat.le_of_ble_eq_true rfl) (Nat.le_of_ble_eq_true rfl) (by omega) (by omega) (Nat.le_of_ble_eq_true rfl) GX.no (pq ?_)
  show GW X 11 [some (.ref 0), some (.int (nI a)), some (.int (nI q))] [] h n 0 0
  refine g_iload_n hX dX3_told_11 rfl rfl ?_
  refine g_bipush (v := (nI 8)) hX dX3_told_12 (by decide) ?_
  refine g_callS (As := [.int (nI q), .int (nI 8)]) hX dX3_told_14 cb_X3_requireIndex ml_X3_33 st_X3_requireIndex rfl rfl (kX3_requireIndex hst (gn_okI hq (by omega))) (Nat.le_of_ble_eq_true rfl) (Nat.le_of_ble_eq_true rfl) (by omega) (by omega) (Nat.le_of_ble_eq_true rfl) GX.no (pq ?_)
  show GW X 17 [some (.ref 0), some (.int (nI a)), some (.int (nI q))] [] h n 0 0
  refine g_aload_n hX dX3_told_17 rfl rfl ?_
  refine g_getf hX dX3_told_18 fl_X3_12 (r0) rfl ?_
  refine g_iload_n hX dX3_told_21 rfl rfl ?_
  refine g_iload_n hX dX3_told_22 rfl rfl ?_
  refine g_callV (As := [.int (nI a), .int (nI q)]) hX dX3_told_23 cb_X2_tellOfRinger ml_X3_103 im_X2_tellOfRinger se_X2_tellOfRinger rfl rfl (f0) ⟨_, rfl, rfl⟩ (kX2_tellOfRinger hst (f0) (fwd) (fsk) (fvt) (fti) (ffa) (fst) (by omega) (by omega) (by omega)) (Nat.le_of_ble_eq_true rfl) (Nat.le_of_ble_eq_true rfl) (by omega) (by omega) (Nat.le_of_ble_eq_true rfl) GX.no (pq ?_)
  show GW X 26 [some (.ref 0), some (.int (nI a)), some (.int (nI q))] [.int (tellI wd sk vt ti fa st rc a q)] h n 0 0
  refine g_ireturn hX hr dX3_told_26 (Nat.le_refl _) (Nat.le_refl _)  ?_
  exact ⟨rfl, rfl, rfl⟩
set_option maxRecDepth 20000 in
theorem kX3_told {l : Launch} {K : gw_K} (hst : l.stackTraces = false) {rc mc n : Nat} {dy tch frs : Int32} {h : gw_H} {wd sk vt ti fa st : Nat → Int32} {a q : Nat} (r0 : h 0 = (oB 3 [.ref 1, .ref 10, .ref 19, .ref 24, .int (nI mc), .int tch, .int frs])) (f0 : h 1 = (oB 2 [.ref (1 + 1), .ref (1 + 2), .ref (1 + 3), .ref (1 + 4), .ref (1 + 5), .ref (1 + 6), .ref (1 + 7), .ref (1 + 8), .int (nI rc), .int dy])) (fwd : h (1 + 1) = (aI 20 wd)) (fsk : h (1 + 2) = (aI 20 sk)) (fvt : h (1 + 3) = (aI 20 vt)) (fti : h (1 + 4) = (aI 20 ti)) (ffa : h (1 + 5) = (aI 20 fa)) (fst : h (1 + 7) = (aI 20 st)) (hrc : rc ≤ 20) (ha : a < rc) (hq : q < 8) : Ctr l K mX3_told [.ref 0, .int (nI a), .int (nI q)] h n 1 6 (PQ (some (.int (tellI wd sk vt ti fa st rc a q))) h n) (PX0) := by
  refine Ctr.of hst pn_X3_told (Nat.le_of_ble_eq_true rfl) (fun X hX hr hE => ?_)
  have hX : FX l K X cX3_told RX3 7 111 1 6 := hX
  show GW X 0 [some (.ref 0), some (.int (nI a)), some (.int (nI q))] [] h n 0 0
  refine g_iload_n hX dX3_told_0 rfl rfl ?_
  refine g_aload_n hX dX3_told_1 rfl rfl ?_
  refine g_getf hX dX3_told_2 fl_X3_12 (r0) rfl ?_
  refine g_getf hX dX3_told_5 fl_X3_41 (f0) rfl ?_
  refine g_callS (As := [.int (nI a), .int (nI rc)]) hX dX3_told_8 cb_X3_requireIndex ml_X3_33 st_X3_requireIndex rfl rfl (kX3_requireIndex hst (gn_okI ha (by omega))) (Nat.le_of_ble_eq_true rfl) (Nat.le_of_ble_eq_true rfl) (by omega) (by omega) (Nat.le_of_ble_eq_true rfl) GX.no (pq ?_)
  show GW X 11 [some (.ref 0), some (.int (nI a)), some (.int (nI q))] [] h n 0 0
  refine g_iload_n hX dX3_told_11 rfl rfl ?_
  refine g_bipush (v := (nI 8)) hX dX3_told_12 (by decide) ?_
  refine g_callS (As := [.int (nI q), .int (nI 8)]) hX dX3_told_14 cb_X3_requireIndex ml_X3_33 st_X3_requireIndex rfl rfl (kX3_requireIndex hst (gn_okI hq (by omega))) (Nat.le_of_ble_eq_true rfl) (Nat.le_of_ble_eq_true rfl) (by omega) (by omega) (Nat.le_of_ble_eq_true rfl) GX.no (pq ?_)
  show GW X 17 [some (.ref 0), some (.int (nI a)), some (.int (nI q))] [] h n 0 0
  refine g_aload_n hX dX3_told_17 rfl rfl ?_
  refine g_getf hX dX3_told_18 fl_X3_12 (r0) rfl ?_
  refine g_iload_n hX dX3_told_21 rfl rfl ?_
  refine g_iload_n hX dX3_told_22 rfl rfl ?_
  refine g_callV (As := [.int (nI a), .int (nI q)]) hX dX3_told_23 cb_X2_tellOfRinger ml_X3_103 im_X2_tellOfRinger se_X2_tellOfRinger rfl rfl (f0) ⟨_, rfl, rfl⟩ (kX2_tellOfRinger hst (f0) (fwd) (fsk) (fvt) (fti) (ffa) (fst) (by omega) (by omega) (by omega)) (Nat.le_of_ble_eq_true rfl) (Nat.le_of_ble_eq_true rfl) (by omega) (by omega) (Nat.le_of_ble_eq_true rfl) GX.no (pq ?_)
  show GW X 26 [some (.ref 0), some (.int (nI a)), some (.int (nI q))] [.int (tellI wd sk vt ti fa st rc a q)] h n 0 0
  refine g_ireturn hX hr dX3_told_26 (by omega) (by omega)  ?_
  exact ⟨rfl, rfl, rfl⟩
set_option maxRecDepth 20000 in
theorem kX3_told_r {l : Launch} {K : gw_K} (hst : l.stackTraces = false) {rc mc n : Nat} {dy tch frs : Int32} {h : gw_H} {a b : Int32} (r0 : h 0 = (oB 3 [.ref 1, .ref 10, .ref 19, .ref 24, .int (nI mc), .int tch, .int frs])) (f0 : h 1 = (oB 2 [.ref (1 + 1), .ref (1 + 2), .ref (1 + 3), .ref (1 + 4), .ref (1 + 5), .ref (1 + 6), .ref (1 + 7), .ref (1 + 8), .int (nI rc), .int dy])) (hz : a < 0 ∨ nI rc ≤ a) : Ctr l K mX3_told [.ref 0, .int a, .int b] h n 1 6 (fun _ _ _ => False) (PXQ "java/lang/IndexOutOfBoundsException" h n) := by
  refine Ctr.of hst pn_X3_told (Nat.le_of_ble_eq_true rfl) (fun X hX hr hE => ?_)
  have hX : FX l K X cX3_told RX3 7 111 1 6 := hX
  show GW X 0 [some (.ref 0), some (.int a), some (.int b)] [] h n 0 0
  refine g_iload_n hX dX3_told_0 rfl rfl ?_
  refine g_aload_n hX dX3_told_1 rfl rfl ?_
  refine g_getf hX dX3_told_2 fl_X3_12 (r0) rfl ?_
  refine g_getf hX dX3_told_5 fl_X3_41 (f0) rfl ?_
  refine g_callS (As := [.int a, .int (nI rc)]) hX dX3_told_8 cb_X3_requireIndex ml_X3_33 st_X3_requireIndex rfl rfl (kX3_requireIndex_x hst (hz)) (Nat.le_of_ble_eq_true rfl) (Nat.le_of_ble_eq_true rfl) (by omega) (by omega) (Nat.le_of_ble_eq_true rfl) ?_ ?_
  · refine px ?_
    refine g_out hX hr hE.1 (by omega) (by omega) ?_
    exact ⟨rfl, rfl, rfl⟩
  · exact fun _ _ _ _ h => h.elim
set_option maxRecDepth 20000 in
theorem kX3_told_w {l : Launch} {K : gw_K} (hst : l.stackTraces = false) {rc mc n : Nat} {dy tch frs : Int32} {h : gw_H} {a : Nat} {b : Int32} (r0 : h 0 = (oB 3 [.ref 1, .ref 10, .ref 19, .ref 24, .int (nI mc), .int tch, .int frs])) (f0 : h 1 = (oB 2 [.ref (1 + 1), .ref (1 + 2), .ref (1 + 3), .ref (1 + 4), .ref (1 + 5), .ref (1 + 6), .ref (1 + 7), .ref (1 + 8), .int (nI rc), .int dy])) (hrc : rc ≤ 20) (ha : a < rc) (hz : b < 0 ∨ nI 8 ≤ b) : Ctr l K mX3_told [.ref 0, .int (nI a), .int b] h n 1 6 (fun _ _ _ => False) (PXQ "java/lang/IndexOutOfBoundsException" h n) := by
  refine Ctr.of hst pn_X3_told (Nat.le_of_ble_eq_true rfl) (fun X hX hr hE => ?_)
  have hX : FX l K X cX3_told RX3 7 111 1 6 := hX
  show GW X 0 [some (.ref 0), some (.int (nI a)), some (.int b)] [] h n 0 0
  refine g_iload_n hX dX3_told_0 rfl rfl ?_
  refine g_aload_n hX dX3_told_1 rfl rfl ?_
  refine g_getf hX dX3_told_2 fl_X3_12 (r0) rfl ?_
  refine g_getf hX dX3_told_5 fl_X3_41 (f0) rfl ?_
  refine g_callS (As := [.int (nI a), .int (nI rc)]) hX dX3_told_8 cb_X3_requireIndex ml_X3_33 st_X3_requireIndex rfl rfl (kX3_requireIndex hst (gn_okI ha (by omega))) (Nat.le_of_ble_eq_true rfl) (Nat.le_of_ble_eq_true rfl) (by omega) (by omega) (Nat.le_of_ble_eq_true rfl) GX.no (pq ?_)
  show GW X 11 [some (.ref 0), some (.int (nI a)), some (.int b)] [] h n 0 0
  refine g_iload_n hX dX3_told_11 rfl rfl ?_
  refine g_bipush (v := (nI 8)) hX dX3_told_12 (by decide) ?_
  refine g_callS (As := [.int b, .int (nI 8)]) hX dX3_told_14 cb_X3_requireIndex ml_X3_33 st_X3_requireIndex rfl rfl (kX3_requireIndex_x hst (hz)) (Nat.le_of_ble_eq_true rfl) (Nat.le_of_ble_eq_true rfl) (by omega) (by omega) (Nat.le_of_ble_eq_true rfl) ?_ ?_
  · refine px ?_
    refine g_out hX hr hE.1 (by omega) (by omega) ?_
    exact ⟨rfl, rfl, rfl⟩
  · exact fun _ _ _ _ h => h.elim
set_option maxRecDepth 20000 in
theorem kX3_bell_s {l : Launch} {K : gw_K} (hst : l.stackTraces = false) {rc mc n : Nat} {dy tch frs : Int32} {h : gw_H} {a b d : Int32} (r0 : h 0 = (oB 3 [.ref 1, .ref 10, .ref 19, .ref 24, .int (nI mc), .int tch, .int frs])) (f0 : h 1 = (oB 2 [.ref (1 + 1), .ref (1 + 2), .ref (1 + 3), .ref (1 + 4), .ref (1 + 5), .ref (1 + 6), .ref (1 + 7), .ref (1 + 8), .int (nI rc), .int dy])) (hz : (a < 0 ∨ nI 3 ≤ a) ∨ (b < 0 ∨ nI 6 ≤ b)) : Ctr l K mX3_bell [.ref 0, .int a, .int b, .int d] h n 1 6 (fun _ _ _ => False) (PXQ "java/lang/IndexOutOfBoundsException" h n) := by
  refine Ctr.of hst pn_X3_bell (Nat.le_of_ble_eq_true rfl) (fun X hX hr hE => ?_)
  have hX : FX l K X cX3_bell RX3 8 132 1 6 := hX
  show GW X 0 [some (.ref 0), some (.int a), some (.int b), some (.int d), none] [] h n 0 0
  refine g_iload_n hX dX3_bell_0 rfl rfl ?_
  refine g_iload_n hX dX3_bell_1 rfl rfl ?_
  refine g_callS (As := [.int a, .int b]) hX dX3_bell_2 cb_X3_requireSeat ml_X3_63 st_X3_requireSeat rfl rfl (kX3_requireSeat_x hst (hz)) (Nat.le_of_ble_eq_true rfl) (Nat.le_of_ble_eq_true rfl) (by omega) (by omega) (Nat.le_of_ble_eq_true rfl) ?_ ?_
  · refine px ?_
    refine g_out hX hr hE.1 (by omega) (by omega) ?_
    exact ⟨rfl, rfl, rfl⟩
  · exact fun _ _ _ _ h => h.elim
set_option maxRecDepth 20000 in
theorem kX3_bell_w {l : Launch} {K : gw_K} (hst : l.stackTraces = false) {rc mc n : Nat} {dy tch frs : Int32} {h : gw_H} {a b : Nat} {d : Int32} (r0 : h 0 = (oB 3 [.ref 1, .ref 10, .ref 19, .ref 24, .int (nI mc), .int tch, .int frs])) (f0 : h 1 = (oB 2 [.ref (1 + 1), .ref (1 + 2), .ref (1 + 3), .ref (1 + 4), .ref (1 + 5), .ref (1 + 6), .ref (1 + 7), .ref (1 + 8), .int (nI rc), .int dy])) (ha : a < 3) (hb : b < 6) (hz : d < 0 ∨ nI 3 ≤ d) : Ctr l K mX3_bell [.ref 0, .int (nI a), .int (nI b), .int d] h n 1 6 (fun _ _ _ => False) (PXQ "java/lang/IndexOutOfBoundsException" h n) := by
  refine Ctr.of hst pn_X3_bell (Nat.le_of_ble_eq_true rfl) (fun X hX hr hE => ?_)
  have hX : FX l K X cX3_bell RX3 8 132 1 6 := hX
  show GW X 0 [some (.ref 0), some (.int (nI a)), some (.int (nI b)), some (.int d), none] [] h n 0 0
  refine g_iload_n hX dX3_bell_0 rfl rfl ?_
  refine g_iload_n hX dX3_bell_1 rfl rfl ?_
  refine g_callS (As := [.int (nI a), .int (nI b)]) hX dX3_bell_2 cb_X3_requireSeat ml_X3_63 st_X3_requireSeat rfl rfl (kX3_requireSeat hst (gn_okS ha hb)) (Nat.le_of_ble_eq_true rfl) (Nat.le_of_ble_eq_true rfl) (by omega) (by omega) (Nat.le_of_ble_eq_true rfl) GX.no (pq ?_)
  show GW X 5 [some (.ref 0), some (.int (nI a)), some (.int (nI b)), some (.int d), none] [] h n 0 0
  refine g_iload_n hX dX3_bell_5 rfl rfl ?_
  refine g_iconst (v := (nI 3)) hX dX3_bell_6 (by decide) ?_
  refine g_callS (As := [.int d, .int (nI 3)]) hX dX3_bell_7 cb_X3_requireIndex ml_X3_33 st_X3_requireIndex rfl rfl (kX3_requireIndex_x hst (hz)) (Nat.le_of_ble_eq_true rfl) (Nat.le_of_ble_eq_true rfl) (by omega) (by omega) (Nat.le_of_ble_eq_true rfl) ?_ ?_
  · refine px ?_
    refine g_out hX hr hE.1 (by omega) (by omega) ?_
    exact ⟨rfl, rfl, rfl⟩
  · exact fun _ _ _ _ h => h.elim
set_option maxRecDepth 20000 in
theorem kX3_bell0 {l : Launch} {K : gw_K} (hst : l.stackTraces = false) {rc mc n : Nat} {dy tch frs : Int32} {h : gw_H} {wd sk vt ti fa st ws : Nat → Int32} {orc : Nat} {ody : Int32} {owd osk ovt oti ofa otf ost ows : Nat → Int32} {pl mv ma : Nat → Int32} {sn : Nat → Int64} {cm rr : Int32} {a b q : Nat} (r0 : h 0 = (oB 3 [.ref 1, .ref 10, .ref 19, .ref 24, .int (nI mc), .int tch, .int frs])) (f0 : h 1 = (oB 2 [.ref (1 + 1), .ref (1 + 2), .ref (1 + 3), .ref (1 + 4), .ref (1 + 5), .ref (1 + 6), .ref (1 + 7), .ref (1 + 8), .int (nI rc), .int dy])) (fwd : h (1 + 1) = (aI 20 wd)) (fsk : h (1 + 2) = (aI 20 sk)) (fvt : h (1 + 3) = (aI 20 vt)) (fti : h (1 + 4) = (aI 20 ti)) (ffa : h (1 + 5) = (aI 20 fa)) (fst : h (1 + 7) = (aI 20 st)) (fws : h (1 + 8) = (aI 18 ws)) (o0 : h 10 = (oB 2 [.ref (10 + 1), .ref (10 + 2), .ref (10 + 3), .ref (10 + 4), .ref (10 + 5), .ref (10 + 6), .ref (10 + 7), .ref (10 + 8), .int (nI orc), .int ody])) (owd : h (10 + 1) = (aI 20 owd)) (osk : h (10 + 2) = (aI 20 osk)) (ovt : h (10 + 3) = (aI 20 ovt)) (oti : h (10 + 4) = (aI 20 oti)) (ofa : h (10 + 5) = (aI 20 ofa)) (otf : h (10 + 6) = (aI 20 otf)) (ost : h (10 + 7) = (aI 20 ost)) (ows : h (10 + 8) = (aI 18 ows)) (g0 : h 19 = (oB 1 [.ref (19 + 1), .ref (19 + 2), .ref (19 + 3), .ref (19 + 4), .int cm, .int rr])) (g1 : h (19 + 1) = (aI 6 pl)) (g2 : h (19 + 2) = (aI 6 mv)) (g3 : h (19 + 3) = (aI 6 ma)) (g4 : h (19 + 4) = (aJ 122 sn)) (hrc : rc ≤ 20) (ha : a < 3) (hb : b < 6) (hq : q < 3) : Ctr l K mX3_bell [.ref 0, .int (nI a), .int (nI b), .int (nI q)] h n 0 0 (PS (some (.int (bellT wd vt ws st rc a b q))) h n) (PX0) := by
  refine Ctr.of hst pn_X3_bell (Nat.le_of_ble_eq_true rfl) (fun X hX hr hE => ?_)
  have hX : FX l K X cX3_bell RX3 8 132 0 0 := hX
  show GW X 0 [some (.ref 0), some (.int (nI a)), some (.int (nI b)), some (.int (nI q)), none] [] h n 0 0
  refine g_iload_n hX dX3_bell_0 rfl rfl ?_
  refine g_iload_n hX dX3_bell_1 rfl rfl ?_
  refine g_callS (As := [.int (nI a), .int (nI b)]) hX dX3_bell_2 cb_X3_requireSeat ml_X3_63 st_X3_requireSeat rfl rfl (kX3_requireSeat hst (gn_okS ha hb)) (Nat.le_of_ble_eq_true rfl) (Nat.le_of_ble_eq_true rfl) (by omega) (by omega) (Nat.le_of_ble_eq_true rfl) GX.no (pq ?_)
  show GW X 5 [some (.ref 0), some (.int (nI a)), some (.int (nI b)), some (.int (nI q)), none] [] h n 0 0
  refine g_iload_n hX dX3_bell_5 rfl rfl ?_
  refine g_iconst (v := (nI 3)) hX dX3_bell_6 (by decide) ?_
  refine g_callS (As := [.int (nI q), .int (nI 3)]) hX dX3_bell_7 cb_X3_requireIndex ml_X3_33 st_X3_requireIndex rfl rfl (kX3_requireIndex hst (gn_okI hq (by omega))) (Nat.le_of_ble_eq_true rfl) (Nat.le_of_ble_eq_true rfl) (by omega) (by omega) (Nat.le_of_ble_eq_true rfl) GX.no (pq ?_)
  show GW X 10 [some (.ref 0), some (.int (nI a)), some (.int (nI b)), some (.int (nI q)), none] [] h n 0 0
  refine g_iload_n hX dX3_bell_10 rfl rfl ?_
  refine g_iload_n hX dX3_bell_11 rfl rfl ?_
  refine g_callS (As := [.int (nI a), .int (nI b)]) hX dX3_bell_12 cb_X3_seatNumber ml_X3_66 st_X3_seatNumber rfl rfl (kX3_seatNumber hst) (Nat.le_of_ble_eq_true rfl) (Nat.le_of_ble_eq_true rfl) (by omega) (by omega) (Nat.le_of_ble_eq_true rfl) GX.no (pq ?_)
  show GW X 15 [some (.ref 0), some (.int (nI a)), some (.int (nI b)), some (.int (nI q)), none] [.int (nI (a * 6 + b))] h n 0 0
  refine g_istore hX dX3_bell_15 (Nat.le_of_ble_eq_true rfl) rfl ?_
  refine g_iload_n hX dX3_bell_17 rfl rfl ?_
  refine g_if_neN (tgt := 32) hX dX3_bell_18 (by decide) (by omega) (fun c1 => ?_) (fun c1 => ?_)
  · refine g_iload_n hX dX3_bell_32 rfl rfl ?_
    refine g_iconst (v := (nI 2)) hX dX3_bell_33 (by decide) ?_
    refine g_icmp_geN (tgt := 47) hX dX3_bell_34 (by decide) (by omega) (fun c2 => ?_) (fun c2 => ?_)
    · refine g_aload_n hX dX3_bell_47 rfl rfl ?_
      refine g_getf hX dX3_bell_48 fl_X3_16 (r0) rfl ?_
      refine g_aload_n hX dX3_bell_51 rfl rfl ?_
      refine g_getf hX dX3_bell_52 fl_X3_12 (r0) rfl ?_
      refine g_callV (As := [.ref 1]) hX dX3_bell_55 cb_X2_copyFrom ml_X3_106 im_X2_copyFrom se_X2_copyFrom rfl rfl (o0) ⟨_, rfl, rfl⟩ (kX2_copyFrom hst (o0) (owd) (osk) (ovt) (oti) (ofa) (ost) (ows) (f0) (fwd) (fsk) (fvt) (fti) (ffa) (fst) (fws) (by omega)) (Nat.le_of_ble_eq_true rfl) (Nat.le_of_ble_eq_true rfl) (by omega) (by omega) (Nat.le_of_ble_eq_true rfl) GX.no (pq ?_)
      show GW X 58 [some (.ref 0), some (.int (nI a)), some (.int (nI b)), some (.int (nI q)), some (.int (nI (a * 6 + b)))] [] (hs (hs (hs (hs (hs (hs (hs (hs h (10 + 1) (aI 20 wd)) (10 + 2) (aI 20 sk)) (10 + 3) (aI 20 vt)) (10 + 4) (aI 20 ti)) (10 + 5) (aI 20 fa)) (10 + 7) (aI 20 st)) (10 + 8) (aI 18 ws)) 10 (oB 2 [.ref (10 + 1), .ref (10 + 2), .ref (10 + 3), .ref (10 + 4), .ref (10 + 5), .ref (10 + 6), .ref (10 + 7), .ref (10 + 8), .int (nI rc), .int dy])) n 0 0
      refine g_aload_n hX dX3_bell_58 rfl rfl ?_
      refine g_getf hX dX3_bell_59 fl_X3_16 ((hs_ne (by omega)).trans ((hs_ne (by omega)).trans ((hs_ne (by omega)).trans ((hs_ne (by omega)).trans ((hs_ne (by omega)).trans ((hs_ne (by omega)).trans ((hs_ne (by omega)).trans ((hs_ne (by omega)).trans (r0))))))))) rfl ?_
      refine g_iload_n hX dX3_bell_62 rfl rfl ?_
      refine g_callV (As := [.int (nI a)]) hX dX3_bell_63 cb_X2_electBand ml_X3_73 im_X2_electBand se_X2_electBand rfl rfl (hs_eq _ _ _) ⟨_, rfl, rfl⟩ (kX2_electBand hst (hs_eq _ _ _) ((hs_ne (by omega)).trans ((hs_ne (by omega)).trans ((hs_ne (by omega)).trans ((hs_ne (by omega)).trans ((hs_ne (by omega)).trans ((hs_ne (by omega)).trans ((hs_ne (by omega)).trans (hs_eq _ _ _)))))))) ((hs_ne (by omega)).trans ((hs_ne (by omega)).trans ((hs_ne (by omega)).trans ((hs_ne (by omega)).trans ((hs_ne (by omega)).trans (hs_eq _ _ _)))))) ((hs_ne (by omega)).trans ((hs_ne (by omega)).trans (hs_eq _ _ _))) ((hs_ne (by omega)).trans (hs_eq _ _ _)) (by omega) (by omega)) (Nat.le_of_ble_eq_true rfl) (Nat.le_of_ble_eq_true rfl) (by omega) (by omega) (Nat.le_of_ble_eq_true rfl) GX.no (pq ?_)
      show GW X 66 [some (.ref 0), some (.int (nI a)), some (.int (nI b)), some (.int (nI q)), some (.int (nI (a * 6 + b)))] [] (hs (hs (hs (hs (hs (hs (hs (hs (hs h (10 + 1) (aI 20 wd)) (10 + 2) (aI 20 sk)) (10 + 3) (aI 20 vt)) (10 + 4) (aI 20 ti)) (10 + 5) (aI 20 fa)) (10 + 7) (aI 20 st)) (10 + 8) (aI 18 ws)) 10 (oB 2 [.ref (10 + 1), .ref (10 + 2), .ref (10 + 3), .ref (10 + 4), .ref (10 + 5), .ref (10 + 6), .ref (10 + 7), .ref (10 + 8), .int (nI rc), .int dy])) (10 + 7) (aI 20 (elB wd vt ws rc st a))) n 0 0
      refine g_aload_n hX dX3_bell_66 rfl rfl ?_
      refine g_getf hX dX3_bell_67 fl_X3_16 ((hs_ne (by omega)).trans ((hs_ne (by omega)).trans ((hs_ne (by omega)).trans ((hs_ne (by omega)).trans ((hs_ne (by omega)).trans ((hs_ne (by omega)).trans ((hs_ne (by omega)).trans ((hs_ne (by omega)).trans ((hs_ne (by omega)).trans (r0)))))))))) rfl ?_
      refine g_iload hX dX3_bell_70 rfl ?_
      refine g_callV (As := [.int (nI (a * 6 + b))]) hX dX3_bell_72 cb_X2_ringerAt ml_X3_81 im_X2_ringerAt se_X2_ringerAt rfl rfl ((hs_ne (by omega)).trans (hs_eq _ _ _)) ⟨_, rfl, rfl⟩ (kX2_ringerAt hst ((hs_ne (by omega)).trans (hs_eq _ _ _)) (hs_eq _ _ _) (by omega)) (Nat.le_of_ble_eq_true rfl) (Nat.le_of_ble_eq_true rfl) (by omega) (by omega) (Nat.le_of_ble_eq_true rfl) GX.no (pq ?_)
      show GW X 75 [some (.ref 0), some (.int (nI a)), some (.int (nI b)), some (.int (nI q)), some (.int (nI (a * 6 + b)))] [.int (atI (elB wd vt ws rc st a) rc (nI (a * 6 + b)))] (hs (hs (hs (hs (hs (hs (hs (hs (hs h (10 + 1) (aI 20 wd)) (10 + 2) (aI 20 sk)) (10 + 3) (aI 20 vt)) (10 + 4) (aI 20 ti)) (10 + 5) (aI 20 fa)) (10 + 7) (aI 20 st)) (10 + 8) (aI 18 ws)) 10 (oB 2 [.ref (10 + 1), .ref (10 + 2), .ref (10 + 3), .ref (10 + 4), .ref (10 + 5), .ref (10 + 6), .ref (10 + 7), .ref (10 + 8), .int (nI rc), .int dy])) (10 + 7) (aI 20 (elB wd vt ws rc st a))) n 0 0
      refine g_ireturn hX hr dX3_bell_75 (Nat.le_refl _) (Nat.le_refl _)  ?_
      exact ⟨by rw [bellT, if_neg c1, if_neg (by omega)], rfl, fun j hj => (hs_ne (by omega)).trans ((hs_ne (by omega)).trans ((hs_ne (by omega)).trans ((hs_ne (by omega)).trans ((hs_ne (by omega)).trans ((hs_ne (by omega)).trans ((hs_ne (by omega)).trans ((hs_ne (by omega)).trans ((hs_ne (by omega)).trans (rfl))))))))), ⟨_, _, _, _, _, _, _, _, _, _, ((hs_ne (by omega)).trans (hs_eq _ _ _)), ((hs_ne (by omega)).trans ((hs_ne (by omega)).trans ((hs_ne (by omega)).trans ((hs_ne (by omega)).trans ((hs_ne (by omega)).trans ((hs_ne (by omega)).trans ((hs_ne (by omega)).trans ((hs_ne (by omega)).trans (hs_eq _ _ _))))))))), ((hs_ne (by omega)).trans ((hs_ne (by omega)).trans ((hs_ne (by omega)).trans ((hs_ne (by omega)).trans ((hs_ne (by omega)).trans ((hs_ne (by omega)).trans ((hs_ne (by omega)).trans (hs_eq _ _ _)))))))), ((hs_ne (by omega)).trans ((hs_ne (by omega)).trans ((hs_ne (by omega)).trans ((hs_ne (by omega)).trans ((hs_ne (by omega)).trans ((hs_ne (by omega)).trans (hs_eq _ _ _))))))), ((hs_ne (by omega)).trans ((hs_ne (by omega)).trans ((hs_ne (by omega)).trans ((hs_ne (by omega)).trans ((hs_ne (by omega)).trans (hs_eq _ _ _)))))), ((hs_ne (by omega)).trans ((hs_ne (by omega)).trans ((hs_ne (by omega)).trans ((hs_ne (by omega)).trans (hs_eq _ _ _))))), ((hs_ne (by omega)).trans ((hs_ne (by omega)).trans ((hs_ne (by omega)).trans ((hs_ne (by omega)).trans ((hs_ne (by omega)).trans ((hs_ne (by omega)).trans ((hs_ne (by omega)).trans ((hs_ne (by omega)).trans ((hs_ne (by omega)).trans (otf)))))))))), (hs_eq _ _ _), ((hs_ne (by omega)).trans ((hs_ne (by omega)).trans (hs_eq _ _ _)))⟩, ⟨_, _, _, _, _, _, ((hs_ne (by omega)).trans ((hs_ne (by omega)).trans ((hs_ne (by omega)).trans ((hs_ne (by omega)).trans ((hs_ne (by omega)).trans ((hs_ne (by omega)).trans ((hs_ne (by omega)).trans ((hs_ne (by omega)).trans ((hs_ne (by omega)).trans (g0)))))))))), ((hs_ne (by omega)).trans ((hs_ne (by omega)).trans ((hs_ne (by omega)).trans ((hs_ne (by omega)).trans ((hs_ne (by omega)).trans ((hs_ne (by omega)).trans ((hs_ne (by omega)).trans ((hs_ne (by omega)).trans ((hs_ne (by omega)).trans (g1)))))))))), ((hs_ne (by omega)).trans ((hs_ne (by omega)).trans ((hs_ne (by omega)).trans ((hs_ne (by omega)).trans ((hs_ne (by omega)).trans ((hs_ne (by omega)).trans ((hs_ne (by omega)).trans ((hs_ne (by omega)).trans ((hs_ne (by omega)).trans (g2)))))))))), ((hs_ne (by omega)).trans ((hs_ne (by omega)).trans ((hs_ne (by omega)).trans ((hs_ne (by omega)).trans ((hs_ne (by omega)).trans ((hs_ne (by omega)).trans ((hs_ne (by omega)).trans ((hs_ne (by omega)).trans ((hs_ne (by omega)).trans (g3)))))))))), ((hs_ne (by omega)).trans ((hs_ne (by omega)).trans ((hs_ne (by omega)).trans ((hs_ne (by omega)).trans ((hs_ne (by omega)).trans ((hs_ne (by omega)).trans ((hs_ne (by omega)).trans ((hs_ne (by omega)).trans ((hs_ne (by omega)).trans (g4))))))))))⟩⟩
    · refine g_aload_n hX dX3_bell_37 rfl rfl ?_
      refine g_getf hX dX3_bell_38 fl_X3_12 (r0) rfl ?_
      refine g_iload hX dX3_bell_41 rfl ?_
      refine g_callV (As := [.int (nI (a * 6 + b))]) hX dX3_bell_43 cb_X2_ringerAt ml_X3_81 im_X2_ringerAt se_X2_ringerAt rfl rfl (f0) ⟨_, rfl, rfl⟩ (kX2_ringerAt hst (f0) (fst) (by omega)) (Nat.le_of_ble_eq_true rfl) (Nat.le_of_ble_eq_true rfl) (by omega) (by omega) (Nat.le_of_ble_eq_true rfl) GX.no (pq ?_)
      show GW X 46 [some (.ref 0), some (.int (nI a)), some (.int (nI b)), some (.int (nI q)), some (.int (nI (a * 6 + b)))] [.int (atI st rc (nI (a * 6 + b)))] h n 0 0
      refine g_ireturn hX hr dX3_bell_46 (Nat.le_refl _) (Nat.le_refl _)  ?_
      exact ⟨by rw [bellT, if_neg c1, if_pos (by omega)], rfl, fun j hj => rfl, ⟨_, _, _, _, _, _, _, _, _, _, o0, owd, osk, ovt, oti, ofa, otf, ost, ows⟩, ⟨_, _, _, _, _, _, g0, g1, g2, g3, g4⟩⟩
  · refine g_aload_n hX dX3_bell_21 rfl rfl ?_
    refine g_getf hX dX3_bell_22 fl_X3_12 (r0) rfl ?_
    refine g_getf hX dX3_bell_25 fl_X3_70 (f0) rfl ?_
    refine g_iload hX dX3_bell_28 rfl ?_
    refine g_iaload hX dX3_bell_30 (fws) (a * 6 + b) (by omega) rfl (by omega) ?_
    refine g_ireturn hX hr dX3_bell_31 (Nat.le_refl _) (Nat.le_refl _)  ?_
    exact ⟨by rw [bellT, if_pos c1], rfl, fun j hj => rfl, ⟨_, _, _, _, _, _, _, _, _, _, o0, owd, osk, ovt, oti, ofa, otf, ost, ows⟩, ⟨_, _, _, _, _, _, g0, g1, g2, g3, g4⟩⟩
set_option maxRecDepth 20000 in
theorem kX3_bell {l : Launch} {K : gw_K} (hst : l.stackTraces = false) {rc mc n : Nat} {dy tch frs : Int32} {h : gw_H} {wd sk vt ti fa st ws : Nat → Int32} {orc : Nat} {ody : Int32} {owd osk ovt oti ofa otf ost ows : Nat → Int32} {pl mv ma : Nat → Int32} {sn : Nat → Int64} {cm rr : Int32} {a b q : Nat} (r0 : h 0 = (oB 3 [.ref 1, .ref 10, .ref 19, .ref 24, .int (nI mc), .int tch, .int frs])) (f0 : h 1 = (oB 2 [.ref (1 + 1), .ref (1 + 2), .ref (1 + 3), .ref (1 + 4), .ref (1 + 5), .ref (1 + 6), .ref (1 + 7), .ref (1 + 8), .int (nI rc), .int dy])) (fwd : h (1 + 1) = (aI 20 wd)) (fsk : h (1 + 2) = (aI 20 sk)) (fvt : h (1 + 3) = (aI 20 vt)) (fti : h (1 + 4) = (aI 20 ti)) (ffa : h (1 + 5) = (aI 20 fa)) (fst : h (1 + 7) = (aI 20 st)) (fws : h (1 + 8) = (aI 18 ws)) (o0 : h 10 = (oB 2 [.ref (10 + 1), .ref (10 + 2), .ref (10 + 3), .ref (10 + 4), .ref (10 + 5), .ref (10 + 6), .ref (10 + 7), .ref (10 + 8), .int (nI orc), .int ody])) (owd : h (10 + 1) = (aI 20 owd)) (osk : h (10 + 2) = (aI 20 osk)) (ovt : h (10 + 3) = (aI 20 ovt)) (oti : h (10 + 4) = (aI 20 oti)) (ofa : h (10 + 5) = (aI 20 ofa)) (otf : h (10 + 6) = (aI 20 otf)) (ost : h (10 + 7) = (aI 20 ost)) (ows : h (10 + 8) = (aI 18 ows)) (g0 : h 19 = (oB 1 [.ref (19 + 1), .ref (19 + 2), .ref (19 + 3), .ref (19 + 4), .int cm, .int rr])) (g1 : h (19 + 1) = (aI 6 pl)) (g2 : h (19 + 2) = (aI 6 mv)) (g3 : h (19 + 3) = (aI 6 ma)) (g4 : h (19 + 4) = (aJ 122 sn)) (hrc : rc ≤ 20) (ha : a < 3) (hb : b < 6) (hq : q < 3) : Ctr l K mX3_bell [.ref 0, .int (nI a), .int (nI b), .int (nI q)] h n 1 6 (PS (some (.int (bellT wd vt ws st rc a b q))) h n) (PX0) := by
  refine Ctr.of hst pn_X3_bell (Nat.le_of_ble_eq_true rfl) (fun X hX hr hE => ?_)
  have hX : FX l K X cX3_bell RX3 8 132 1 6 := hX
  show GW X 0 [some (.ref 0), some (.int (nI a)), some (.int (nI b)), some (.int (nI q)), none] [] h n 0 0
  refine g_iload_n hX dX3_bell_0 rfl rfl ?_
  refine g_iload_n hX dX3_bell_1 rfl rfl ?_
  refine g_callS (As := [.int (nI a), .int (nI b)]) hX dX3_bell_2 cb_X3_requireSeat ml_X3_63 st_X3_requireSeat rfl rfl (kX3_requireSeat hst (gn_okS ha hb)) (Nat.le_of_ble_eq_true rfl) (Nat.le_of_ble_eq_true rfl) (by omega) (by omega) (Nat.le_of_ble_eq_true rfl) GX.no (pq ?_)
  show GW X 5 [some (.ref 0), some (.int (nI a)), some (.int (nI b)), some (.int (nI q)), none] [] h n 0 0
  refine g_iload_n hX dX3_bell_5 rfl rfl ?_
  refine g_iconst (v := (nI 3)) hX dX3_bell_6 (by decide) ?_
  refine g_callS (As := [.int (nI q), .int (nI 3)]) hX dX3_bell_7 cb_X3_requireIndex ml_X3_33 st_X3_requireIndex rfl rfl (kX3_requireIndex hst (gn_okI hq (by omega))) (Nat.le_of_ble_eq_true rfl) (Nat.le_of_ble_eq_true rfl) (by omega) (by omega) (Nat.le_of_ble_eq_true rfl) GX.no (pq ?_)
  show GW X 10 [some (.ref 0), some (.int (nI a)), some (.int (nI b)), some (.int (nI q)), none] [] h n 0 0
  refine g_iload_n hX dX3_bell_10 rfl rfl ?_
  refine g_iload_n hX dX3_bell_11 rfl rfl ?_
  refine g_callS (As := [.int (nI a), .int (nI b)]) hX dX3_bell_12 cb_X3_seatNumber ml_X3_66 st_X3_seatNumber rfl rfl (kX3_seatNumber hst) (Nat.le_of_ble_eq_true rfl) (Nat.le_of_ble_eq_true rfl) (by omega) (by omega) (Nat.le_of_ble_eq_true rfl) GX.no (pq ?_)
  show GW X 15 [some (.ref 0), some (.int (nI a)), some (.int (nI b)), some (.int (nI q)), none] [.int (nI (a * 6 + b))] h n 0 0
  refine g_istore hX dX3_bell_15 (Nat.le_of_ble_eq_true rfl) rfl ?_
  refine g_iload_n hX dX3_bell_17 rfl rfl ?_
  refine g_if_neN (tgt := 32) hX dX3_bell_18 (by decide) (by omega) (fun c1 => ?_) (fun c1 => ?_)
  · refine g_iload_n hX dX3_bell_32 rfl rfl ?_
    refine g_iconst (v := (nI 2)) hX dX3_bell_33 (by decide) ?_
    refine g_icmp_geN (tgt := 47) hX dX3_bell_34 (by decide) (by omega) (fun c2 => ?_) (fun c2 => ?_)
    · refine g_aload_n hX dX3_bell_47 rfl rfl ?_
      refine g_getf hX dX3_bell_48 fl_X3_16 (r0) rfl ?_
      refine g_aload_n hX dX3_bell_51 rfl rfl ?_
      refine g_getf hX dX3_bell_52 fl_X3_12 (r0) rfl ?_
      refine g_callV (As := [.ref 1]) hX dX3_bell_55 cb_X2_copyFrom ml_X3_106 im_X2_copyFrom se_X2_copyFrom rfl rfl (o0) ⟨_, rfl, rfl⟩ (kX2_copyFrom hst (o0) (owd) (osk) (ovt) (oti) (ofa) (ost) (ows) (f0) (fwd) (fsk) (fvt) (fti) (ffa) (fst) (fws) (by omega)) (Nat.le_of_ble_eq_true rfl) (Nat.le_of_ble_eq_true rfl) (by omega) (by omega) (Nat.le_of_ble_eq_true rfl) GX.no (pq ?_)
      show GW X 58 [some (.ref 0), some (.int (nI a)), some (.int (nI b)), some (.int (nI q)), some (.int (nI (a * 6 + b)))] [] (hs (hs (hs (hs (hs (hs (hs (hs h (10 + 1) (aI 20 wd)) (10 + 2) (aI 20 sk)) (10 + 3) (aI 20 vt)) (10 + 4) (aI 20 ti)) (10 + 5) (aI 20 fa)) (10 + 7) (aI 20 st)) (10 + 8) (aI 18 ws)) 10 (oB 2 [.ref (10 + 1), .ref (10 + 2), .ref (10 + 3), .ref (10 + 4), .ref (10 + 5), .ref (10 + 6), .ref (10 + 7), .ref (10 + 8), .int (nI rc), .int dy])) n 0 0
      refine g_aload_n hX dX3_bell_58 rfl rfl ?_
      refine g_getf hX dX3_bell_59 fl_X3_16 ((hs_ne (by omega)).trans ((hs_ne (by omega)).trans ((hs_ne (by omega)).trans ((hs_ne (by omega)).trans ((hs_ne (by omega)).trans ((hs_ne (by omega)).trans ((hs_ne (by omega)).trans ((hs_ne (by omega)).trans (r0))))))))) rfl ?_
      refine g_iload_n hX dX3_bell_62 rfl rfl ?_
      refine g_callV (As := [.int (nI a)]) hX dX3_bell_63 cb_X2_electBand ml_X3_73 im_X2_electBand se_X2_electBand rfl rfl (hs_eq _ _ _) ⟨_, rfl, rfl⟩ (kX2_electBand hst (hs_eq _ _ _) ((hs_ne (by omega)).trans ((hs_ne (by omega)).trans ((hs_ne (by omega)).trans ((hs_ne (by omega)).trans ((hs_ne (by omega)).trans ((hs_ne (by omega)).trans ((hs_ne (by omega)).trans (hs_eq _ _ _)))))))) ((hs_ne (by omega)).trans ((hs_ne (by omega)).trans ((hs_ne (by omega)).trans ((hs_ne (by omega)).trans ((hs_ne (by omega)).trans (hs_eq _ _ _)))))) ((hs_ne (by omega)).trans ((hs_ne (by omega)).trans (hs_eq _ _ _))) ((hs_ne (by omega)).trans (hs_eq _ _ _)) (by omega) (by omega)) (Nat.le_of_ble_eq_true rfl) (Nat.le_of_ble_eq_true rfl) (by omega) (by omega) (Nat.le_of_ble_eq_true rfl) GX.no (pq ?_)
      show GW X 66 [some (.ref 0), some (.int (nI a)), some (.int (nI b)), some (.int (nI q)), some (.int (nI (a * 6 + b)))] [] (hs (hs (hs (hs (hs (hs (hs (hs (hs h (10 + 1) (aI 20 wd)) (10 + 2) (aI 20 sk)) (10 + 3) (aI 20 vt)) (10 + 4) (aI 20 ti)) (10 + 5) (aI 20 fa)) (10 + 7) (aI 20 st)) (10 + 8) (aI 18 ws)) 10 (oB 2 [.ref (10 + 1), .ref (10 + 2), .ref (10 + 3), .ref (10 + 4), .ref (10 + 5), .ref (10 + 6), .ref (10 + 7), .ref (10 + 8), .int (nI rc), .int dy])) (10 + 7) (aI 20 (elB wd vt ws rc st a))) n 0 0
      refine g_aload_n hX dX3_bell_66 rfl rfl ?_
      refine g_getf hX dX3_bell_67 fl_X3_16 ((hs_ne (by omega)).trans ((hs_ne (by omega)).trans ((hs_ne (by omega)).trans ((hs_ne (by omega)).trans ((hs_ne (by omega)).trans ((hs_ne (by omega)).trans ((hs_ne (by omega)).trans ((hs_ne (by omega)).trans ((hs_ne (by omega)).trans (r0)))))))))) rfl ?_
      refine g_iload hX dX3_bell_70 rfl ?_
      refine g_callV (As := [.int (nI (a * 6 + b))]) hX dX3_bell_72 cb_X2_ringerAt ml_X3_81 im_X2_ringerAt se_X2_ringerAt rfl rfl ((hs_ne (by omega)).trans (hs_eq _ _ _)) ⟨_, rfl, rfl⟩ (kX2_ringerAt hst ((hs_ne (by omega)).trans (hs_eq _ _ _)) (hs_eq _ _ _) (by omega)) (Nat.le_of_ble_eq_true rfl) (Nat.le_of_ble_eq_true rfl) (by omega) (by omega) (Nat.le_of_ble_eq_true rfl) GX.no (pq ?_)
      show GW X 75 [some (.ref 0), some (.int (nI a)), some (.int (nI b)), some (.int (nI q)), some (.int (nI (a * 6 + b)))] [.int (atI (elB wd vt ws rc st a) rc (nI (a * 6 + b)))] (hs (hs (hs (hs (hs (hs (hs (hs (hs h (10 + 1) (aI 20 wd)) (10 + 2) (aI 20 sk)) (10 + 3) (aI 20 vt)) (10 + 4) (aI 20 ti)) (10 + 5) (aI 20 fa)) (10 + 7) (aI 20 st)) (10 + 8) (aI 18 ws)) 10 (oB 2 [.ref (10 + 1), .ref (10 + 2), .ref (10 + 3), .ref (10 + 4), .ref (10 + 5), .ref (10 + 6), .ref (10 + 7), .ref (10 + 8), .int (nI rc), .int dy])) (10 + 7) (aI 20 (elB wd vt ws rc st a))) n 0 0
      refine g_ireturn hX hr dX3_bell_75 (by omega) (by omega)  ?_
      exact ⟨by rw [bellT, if_neg c1, if_neg (by omega)], rfl, fun j hj => (hs_ne (by omega)).trans ((hs_ne (by omega)).trans ((hs_ne (by omega)).trans ((hs_ne (by omega)).trans ((hs_ne (by omega)).trans ((hs_ne (by omega)).trans ((hs_ne (by omega)).trans ((hs_ne (by omega)).trans ((hs_ne (by omega)).trans (rfl))))))))), ⟨_, _, _, _, _, _, _, _, _, _, ((hs_ne (by omega)).trans (hs_eq _ _ _)), ((hs_ne (by omega)).trans ((hs_ne (by omega)).trans ((hs_ne (by omega)).trans ((hs_ne (by omega)).trans ((hs_ne (by omega)).trans ((hs_ne (by omega)).trans ((hs_ne (by omega)).trans ((hs_ne (by omega)).trans (hs_eq _ _ _))))))))), ((hs_ne (by omega)).trans ((hs_ne (by omega)).trans ((hs_ne (by omega)).trans ((hs_ne (by omega)).trans ((hs_ne (by omega)).trans ((hs_ne (by omega)).trans ((hs_ne (by omega)).trans (hs_eq _ _ _)))))))), ((hs_ne (by omega)).trans ((hs_ne (by omega)).trans ((hs_ne (by omega)).trans ((hs_ne (by omega)).trans ((hs_ne (by omega)).trans ((hs_ne (by omega)).trans (hs_eq _ _ _))))))), ((hs_ne (by omega)).trans ((hs_ne (by omega)).trans ((hs_ne (by omega)).trans ((hs_ne (by omega)).trans ((hs_ne (by omega)).trans (hs_eq _ _ _)))))), ((hs_ne (by omega)).trans ((hs_ne (by omega)).trans ((hs_ne (by omega)).trans ((hs_ne (by omega)).trans (hs_eq _ _ _))))), ((hs_ne (by omega)).trans ((hs_ne (by omega)).trans ((hs_ne (by omega)).trans ((hs_ne (by omega)).trans ((hs_ne (by omega)).trans ((hs_ne (by omega)).trans ((hs_ne (by omega)).trans ((hs_ne (by omega)).trans ((hs_ne (by omega)).trans (otf)))))))))), (hs_eq _ _ _), ((hs_ne (by omega)).trans ((hs_ne (by omega)).trans (hs_eq _ _ _)))⟩, ⟨_, _, _, _, _, _, ((hs_ne (by omega)).trans ((hs_ne (by omega)).trans ((hs_ne (by omega)).trans ((hs_ne (by omega)).trans ((hs_ne (by omega)).trans ((hs_ne (by omega)).trans ((hs_ne (by omega)).trans ((hs_ne (by omega)).trans ((hs_ne (by omega)).trans (g0)))))))))), ((hs_ne (by omega)).trans ((hs_ne (by omega)).trans ((hs_ne (by omega)).trans ((hs_ne (by omega)).trans ((hs_ne (by omega)).trans ((hs_ne (by omega)).trans ((hs_ne (by omega)).trans ((hs_ne (by omega)).trans ((hs_ne (by omega)).trans (g1)))))))))), ((hs_ne (by omega)).trans ((hs_ne (by omega)).trans ((hs_ne (by omega)).trans ((hs_ne (by omega)).trans ((hs_ne (by omega)).trans ((hs_ne (by omega)).trans ((hs_ne (by omega)).trans ((hs_ne (by omega)).trans ((hs_ne (by omega)).trans (g2)))))))))), ((hs_ne (by omega)).trans ((hs_ne (by omega)).trans ((hs_ne (by omega)).trans ((hs_ne (by omega)).trans ((hs_ne (by omega)).trans ((hs_ne (by omega)).trans ((hs_ne (by omega)).trans ((hs_ne (by omega)).trans ((hs_ne (by omega)).trans (g3)))))))))), ((hs_ne (by omega)).trans ((hs_ne (by omega)).trans ((hs_ne (by omega)).trans ((hs_ne (by omega)).trans ((hs_ne (by omega)).trans ((hs_ne (by omega)).trans ((hs_ne (by omega)).trans ((hs_ne (by omega)).trans ((hs_ne (by omega)).trans (g4))))))))))⟩⟩
    · refine g_aload_n hX dX3_bell_37 rfl rfl ?_
      refine g_getf hX dX3_bell_38 fl_X3_12 (r0) rfl ?_
      refine g_iload hX dX3_bell_41 rfl ?_
      refine g_callV (As := [.int (nI (a * 6 + b))]) hX dX3_bell_43 cb_X2_ringerAt ml_X3_81 im_X2_ringerAt se_X2_ringerAt rfl rfl (f0) ⟨_, rfl, rfl⟩ (kX2_ringerAt hst (f0) (fst) (by omega)) (Nat.le_of_ble_eq_true rfl) (Nat.le_of_ble_eq_true rfl) (by omega) (by omega) (Nat.le_of_ble_eq_true rfl) GX.no (pq ?_)
      show GW X 46 [some (.ref 0), some (.int (nI a)), some (.int (nI b)), some (.int (nI q)), some (.int (nI (a * 6 + b)))] [.int (atI st rc (nI (a * 6 + b)))] h n 0 0
      refine g_ireturn hX hr dX3_bell_46 (by omega) (by omega)  ?_
      exact ⟨by rw [bellT, if_neg c1, if_pos (by omega)], rfl, fun j hj => rfl, ⟨_, _, _, _, _, _, _, _, _, _, o0, owd, osk, ovt, oti, ofa, otf, ost, ows⟩, ⟨_, _, _, _, _, _, g0, g1, g2, g3, g4⟩⟩
  · refine g_aload_n hX dX3_bell_21 rfl rfl ?_
    refine g_getf hX dX3_bell_22 fl_X3_12 (r0) rfl ?_
    refine g_getf hX dX3_bell_25 fl_X3_70 (f0) rfl ?_
    refine g_iload hX dX3_bell_28 rfl ?_
    refine g_iaload hX dX3_bell_30 (fws) (a * 6 + b) (by omega) rfl (by omega) ?_
    refine g_ireturn hX hr dX3_bell_31 (by omega) (by omega)  ?_
    exact ⟨by rw [bellT, if_pos c1], rfl, fun j hj => rfl, ⟨_, _, _, _, _, _, _, _, _, _, o0, owd, osk, ovt, oti, ofa, otf, ost, ows⟩, ⟨_, _, _, _, _, _, g0, g1, g2, g3, g4⟩⟩
set_option maxRecDepth 20000 in
theorem kX3_method_f {l : Launch} {K : gw_K} (hst : l.stackTraces = false) {rc mc n : Nat} {dy tch frs : Int32} {h : gw_H}  (r0 : h 0 = (oB 3 [.ref 1, .ref 10, .ref 19, .ref 24, .int (nI mc), .int tch, .int frs])) (f0 : h 1 = (oB 2 [.ref (1 + 1), .ref (1 + 2), .ref (1 + 3), .ref (1 + 4), .ref (1 + 5), .ref (1 + 6), .ref (1 + 7), .ref (1 + 8), .int (nI rc), .int dy])) (hm5 : mc = 5) : Ctr l K mX3_method [.ref 0] h n 1 6 (fun _ _ _ => False) (PXQ "java/lang/IllegalStateException" h n) := by
  refine Ctr.of hst pn_X3_method (Nat.le_of_ble_eq_true rfl) (fun X hX hr hE => ?_)
  have hX : FX l K X cX3_method RX3 6 90 1 6 := hX
  show GW X 0 [some (.ref 0)] [] h n 0 0
  refine g_aload_n hX dX3_method_0 rfl rfl ?_
  refine g_getf hX dX3_method_1 fl_X3_110 (r0) rfl ?_
  refine g_iconst (v := (nI 5)) hX dX3_method_4 (by decide) ?_
  refine g_icmp_ltN (tgt := 18) hX dX3_method_5 (by decide) (by omega) (fun c1 => absurd c1 (by omega)) (fun c1 => ?_)
  refine g_throwS hX hr hE.1 ts_45_113_49 dX3_method_8 dX3_method_11 dX3_method_12 dX3_method_14 dX3_method_17 (Nat.le_of_ble_eq_true rfl) (Nat.le_of_ble_eq_true rfl) (by omega) (by omega) ?_
  exact ⟨rfl, rfl, rfl⟩
set_option maxRecDepth 20000 in
theorem kX3_method {l : Launch} {K : gw_K} (hst : l.stackTraces = false) {rc mc n : Nat} {dy tch frs : Int32} {h : gw_H}  (r0 : h 0 = (oB 3 [.ref 1, .ref 10, .ref 19, .ref 24, .int (nI mc), .int tch, .int frs])) (f0 : h 1 = (oB 2 [.ref (1 + 1), .ref (1 + 2), .ref (1 + 3), .ref (1 + 4), .ref (1 + 5), .ref (1 + 6), .ref (1 + 7), .ref (1 + 8), .int (nI rc), .int dy])) (hm5 : mc < 5) : Ctr l K mX3_method [.ref 0] h n 1 6 (PQ (some (.int (nI mc))) (hs h 0 (oB 3 [.ref 1, .ref 10, .ref 19, .ref 24, .int (nI (mc + 1)), .int tch, .int frs])) n) (PX0) := by
  refine Ctr.of hst pn_X3_method (Nat.le_of_ble_eq_true rfl) (fun X hX hr hE => ?_)
  have hX : FX l K X cX3_method RX3 6 90 1 6 := hX
  show GW X 0 [some (.ref 0)] [] h n 0 0
  refine g_aload_n hX dX3_method_0 rfl rfl ?_
  refine g_getf hX dX3_method_1 fl_X3_110 (r0) rfl ?_
  refine g_iconst (v := (nI 5)) hX dX3_method_4 (by decide) ?_
  refine g_icmp_ltN (tgt := 18) hX dX3_method_5 (by decide) (by omega) (fun c1 => ?_) (fun c1 => absurd c1 (by omega))
  refine g_aload_n hX dX3_method_18 rfl rfl ?_
  refine g_dup hX dX3_method_19 rfl ?_
  refine g_getf hX dX3_method_20 fl_X3_110 (r0) rfl ?_
  refine g_iconst (v := (nI 1)) hX dX3_method_23 (by decide) ?_
  refine g_iaddN hX dX3_method_24 ?_
  refine g_putI hX dX3_method_25 fl_X3_110 (r0) (Nat.le_of_ble_eq_true rfl) ?_
  show GW X 28 [some (.ref 0)] [] (hs h 0 (oB 3 [.ref 1, .ref 10, .ref 19, .ref 24, .int (nI (mc + 1)), .int tch, .int frs])) n 0 0
  refine g_aload_n hX dX3_method_28 rfl rfl ?_
  refine g_getf hX dX3_method_29 fl_X3_110 (hs_eq _ _ _) rfl ?_
  refine g_iconst (v := (nI 1)) hX dX3_method_32 (by decide) ?_
  refine g_isubN hX dX3_method_33 (by omega) ?_
  refine g_ireturn hX hr dX3_method_34 (by omega) (by omega)  ?_
  exact ⟨by congr 3, rfl, rfl⟩
set_option maxRecDepth 20000 in
theorem kX3_listNumbered_b {l : Launch} {K : gw_K} (hst : l.stackTraces = false) {rc mc n : Nat} {dy tch frs : Int32} {h : gw_H} {a : Int32} (r0 : h 0 = (oB 3 [.ref 1, .ref 10, .ref 19, .ref 24, .int (nI mc), .int tch, .int frs])) (f0 : h 1 = (oB 2 [.ref (1 + 1), .ref (1 + 2), .ref (1 + 3), .ref (1 + 4), .ref (1 + 5), .ref (1 + 6), .ref (1 + 7), .ref (1 + 8), .int (nI rc), .int dy])) (hz : a < 0 ∨ nI mc ≤ a) : Ctr l K mX3_listNumbered [.ref 0, .int a] h n 1 6 (fun _ _ _ => False) (PXQ "java/lang/IndexOutOfBoundsException" h n) := by
  refine Ctr.of hst pn_X3_listNumbered (Nat.le_of_ble_eq_true rfl) (fun X hX hr hE => ?_)
  have hX : FX l K X cX3_listNumbered RX3 7 111 1 6 := hX
  show GW X 0 [some (.ref 0), some (.int a)] [] h n 0 0
  refine g_iload_n hX dX3_listNumbered_0 rfl rfl ?_
  refine g_aload_n hX dX3_listNumbered_1 rfl rfl ?_
  refine g_getf hX dX3_listNumbered_2 fl_X3_110 (r0) rfl ?_
  refine g_callS (As := [.int a, .int (nI mc)]) hX dX3_listNumbered_5 cb_X3_requireIndex ml_X3_33 st_X3_requireIndex rfl rfl (kX3_requireIndex_x hst (hz)) (Nat.le_of_ble_eq_true rfl) (Nat.le_of_ble_eq_true rfl) (by omega) (by omega) (Nat.le_of_ble_eq_true rfl) ?_ ?_
  · refine px ?_
    refine g_out hX hr hE.1 (by omega) (by omega) ?_
    exact ⟨rfl, rfl, rfl⟩
  · exact fun _ _ _ _ h => h.elim
set_option maxRecDepth 20000 in
theorem kX3_listNumbered {l : Launch} {K : gw_K} (hst : l.stackTraces = false) {mc n k c : Nat} {tch frs : Int32} {h : gw_H} (r0 : h 0 = (oB 3 [.ref 1, .ref 10, .ref 19, .ref 24, .int (nI mc), .int tch, .int frs])) (la : h 24 = (aQ 5 lsF)) (hk : k < mc) (hm5 : mc ≤ 5) (hck : c = 25 + 3 * k) : Ctr l K mX3_listNumbered [.ref 0, .int (nI k)] h n 0 0 (PQ (some (.ref c)) h n) (PX0) := by
  refine Ctr.of hst pn_X3_listNumbered (Nat.le_of_ble_eq_true rfl) (fun X hX hr hE => ?_)
  have hX : FX l K X cX3_listNumbered RX3 7 111 0 0 := hX
  show GW X 0 [some (.ref 0), some (.int (nI k))] [] h n 0 0
  refine g_iload_n hX dX3_listNumbered_0 rfl rfl ?_
  refine g_aload_n hX dX3_listNumbered_1 rfl rfl ?_
  refine g_getf hX dX3_listNumbered_2 fl_X3_110 (r0) rfl ?_
  refine g_callS (As := [.int (nI k), .int (nI mc)]) hX dX3_listNumbered_5 cb_X3_requireIndex ml_X3_33 st_X3_requireIndex rfl rfl (kX3_requireIndex hst (gn_okI hk (by omega))) (Nat.le_of_ble_eq_true rfl) (Nat.le_of_ble_eq_true rfl) (by omega) (by omega) (Nat.le_of_ble_eq_true rfl) GX.no (pq ?_)
  show GW X 8 [some (.ref 0), some (.int (nI k))] [] h n 0 0
  refine g_aload_n hX dX3_listNumbered_8 rfl rfl ?_
  refine g_getf hX dX3_listNumbered_9 fl_X3_28 (r0) rfl ?_
  refine g_iload_n hX dX3_listNumbered_12 rfl rfl ?_
  refine g_aaload (b := c) hX dX3_listNumbered_13 (la) (k) (by omega) rfl (by omega) (by rw [lsF, if_pos (by omega), hck]) ?_
  refine g_areturn hX hr (Or.inl ⟨_, rfl⟩) dX3_listNumbered_14 (Nat.le_refl _) (Nat.le_refl _) ?_
  exact ⟨rfl, rfl, rfl⟩
set_option maxRecDepth 20000 in
theorem kX3_about0 {l : Launch} {K : gw_K} (hst : l.stackTraces = false) {rc mc n : Nat} {dy tch frs : Int32} {h : gw_H} {c m : Nat} {ld rw_ fr ho : Int32} {ch dg : Nat → Int32} {k q : Nat} (r0 : h 0 = (oB 3 [.ref 1, .ref 10, .ref 19, .ref 24, .int (nI mc), .int tch, .int frs])) (f0 : h 1 = (oB 2 [.ref (1 + 1), .ref (1 + 2), .ref (1 + 3), .ref (1 + 4), .ref (1 + 5), .ref (1 + 6), .ref (1 + 7), .ref (1 + 8), .int (nI rc), .int dy])) (l0 : h c = (oB 0 [.ref (c + 1), .ref (c + 2), .int (nI m), .int ld, .int rw_, .int fr, .int ho])) (l1 : h (c + 1) = (aI 12 ch)) (l2 : h (c + 2) = (aI 6 dg)) (la : h 24 = (aQ 5 lsF)) (hk : k < mc) (hm5 : mc ≤ 5) (hck : c = 25 + 3 * k) (hm12 : m ≤ 12) (hq : q < 6) : Ctr l K mX3_about [.ref 0, .int (nI k), .int (nI q)] h n 0 0 (PQ (some (.int (aboutI m ld rw_ fr dg ho q))) h n) (PX0) := by
  refine Ctr.of hst pn_X3_about (Nat.le_of_ble_eq_true rfl) (fun X hX hr hE => ?_)
  have hX : FX l K X cX3_about RX3 8 132 0 0 := hX
  show GW X 0 [some (.ref 0), some (.int (nI k)), some (.int (nI q)), none] [] h n 0 0
  refine g_aload_n hX dX3_about_0 rfl rfl ?_
  refine g_iload_n hX dX3_about_1 rfl rfl ?_
  refine g_callV (As := [.int (nI k)]) hX dX3_about_2 cb_X3_listNumbered ml_X3_115 im_X3_listNumbered se_X3_listNumbered rfl rfl (r0) ⟨_, rfl, rfl⟩ (kX3_listNumbered hst (r0) (la) (by omega) (by omega) (hck)) (Nat.le_of_ble_eq_true rfl) (Nat.le_of_ble_eq_true rfl) (by omega) (by omega) (Nat.le_of_ble_eq_true rfl) GX.no (pq ?_)
  show GW X 5 [some (.ref 0), some (.int (nI k)), some (.int (nI q)), none] [.ref c] h n 0 0
  refine g_astore_n (i := 3) hX dX3_about_5 rfl (Nat.le_of_ble_eq_true rfl) rfl ?_
  refine g_iload_n hX dX3_about_6 rfl rfl ?_
  refine g_bipush (v := (nI 6)) hX dX3_about_7 (by decide) ?_
  refine g_callS (As := [.int (nI q), .int (nI 6)]) hX dX3_about_9 cb_X3_requireIndex ml_X3_33 st_X3_requireIndex rfl rfl (kX3_requireIndex hst (gn_okI hq (by omega))) (Nat.le_of_ble_eq_true rfl) (Nat.le_of_ble_eq_true rfl) (by omega) (by omega) (Nat.le_of_ble_eq_true rfl) GX.no (pq ?_)
  show GW X 12 [some (.ref 0), some (.int (nI k)), some (.int (nI q)), some (.ref c)] [] h n 0 0
  refine g_aload_n hX dX3_about_12 rfl rfl ?_
  refine g_iload_n hX dX3_about_13 rfl rfl ?_
  refine g_callV (As := [.int (nI q)]) hX dX3_about_14 cb_X0_tellOfCourse ml_X3_136 im_X0_tellOfCourse se_X0_tellOfCourse rfl rfl (l0) ⟨_, rfl, rfl⟩ (kX0_tellOfCourse hst (l0) (l2) (by omega)) (Nat.le_of_ble_eq_true rfl) (Nat.le_of_ble_eq_true rfl) (by omega) (by omega) (Nat.le_of_ble_eq_true rfl) GX.no (pq ?_)
  show GW X 17 [some (.ref 0), some (.int (nI k)), some (.int (nI q)), some (.ref c)] [.int (aboutI m ld rw_ fr dg ho q)] h n 0 0
  refine g_ireturn hX hr dX3_about_17 (Nat.le_refl _) (Nat.le_refl _)  ?_
  exact ⟨rfl, rfl, rfl⟩
set_option maxRecDepth 20000 in
theorem kX3_dodges0 {l : Launch} {K : gw_K} (hst : l.stackTraces = false) {rc mc n : Nat} {dy tch frs : Int32} {h : gw_H} {c m : Nat} {ld rw_ fr ho : Int32} {ch dg : Nat → Int32} {k q : Nat} (r0 : h 0 = (oB 3 [.ref 1, .ref 10, .ref 19, .ref 24, .int (nI mc), .int tch, .int frs])) (f0 : h 1 = (oB 2 [.ref (1 + 1), .ref (1 + 2), .ref (1 + 3), .ref (1 + 4), .ref (1 + 5), .ref (1 + 6), .ref (1 + 7), .ref (1 + 8), .int (nI rc), .int dy])) (l0 : h c = (oB 0 [.ref (c + 1), .ref (c + 2), .int (nI m), .int ld, .int rw_, .int fr, .int ho])) (l1 : h (c + 1) = (aI 12 ch)) (l2 : h (c + 2) = (aI 6 dg)) (la : h 24 = (aQ 5 lsF)) (hk : k < mc) (hm5 : mc ≤ 5) (hck : c = 25 + 3 * k) (hm12 : m ≤ 12) (hq : q < 6) : Ctr l K mX3_dodges [.ref 0, .int (nI k), .int (nI q)] h n 0 0 (PQ (some (.int (dg q))) h n) (PX0) := by
  refine Ctr.of hst pn_X3_dodges (Nat.le_of_ble_eq_true rfl) (fun X hX hr hE => ?_)
  have hX : FX l K X cX3_dodges RX3 8 132 0 0 := hX
  show GW X 0 [some (.ref 0), some (.int (nI k)), some (.int (nI q)), none] [] h n 0 0
  refine g_aload_n hX dX3_dodges_0 rfl rfl ?_
  refine g_iload_n hX dX3_dodges_1 rfl rfl ?_
  refine g_callV (As := [.int (nI k)]) hX dX3_dodges_2 cb_X3_listNumbered ml_X3_115 im_X3_listNumbered se_X3_listNumbered rfl rfl (r0) ⟨_, rfl, rfl⟩ (kX3_listNumbered hst (r0) (la) (by omega) (by omega) (hck)) (Nat.le_of_ble_eq_true rfl) (Nat.le_of_ble_eq_true rfl) (by omega) (by omega) (Nat.le_of_ble_eq_true rfl) GX.no (pq ?_)
  show GW X 5 [some (.ref 0), some (.int (nI k)), some (.int (nI q)), none] [.ref c] h n 0 0
  refine g_astore_n (i := 3) hX dX3_dodges_5 rfl (Nat.le_of_ble_eq_true rfl) rfl ?_
  refine g_iload_n hX dX3_dodges_6 rfl rfl ?_
  refine g_bipush (v := (nI 6)) hX dX3_dodges_7 (by decide) ?_
  refine g_callS (As := [.int (nI q), .int (nI 6)]) hX dX3_dodges_9 cb_X3_requireIndex ml_X3_33 st_X3_requireIndex rfl rfl (kX3_requireIndex hst (gn_okI hq (by omega))) (Nat.le_of_ble_eq_true rfl) (Nat.le_of_ble_eq_true rfl) (by omega) (by omega) (Nat.le_of_ble_eq_true rfl) GX.no (pq ?_)
  show GW X 12 [some (.ref 0), some (.int (nI k)), some (.int (nI q)), some (.ref c)] [] h n 0 0
  refine g_aload_n hX dX3_dodges_12 rfl rfl ?_
  refine g_getf hX dX3_dodges_13 fl_X3_154 (l0) rfl ?_
  refine g_iload_n hX dX3_dodges_16 rfl rfl ?_
  refine g_iaload hX dX3_dodges_17 (l2) (q) (by omega) rfl (by omega) ?_
  refine g_ireturn hX hr dX3_dodges_18 (Nat.le_refl _) (Nat.le_refl _)  ?_
  exact ⟨rfl, rfl, rfl⟩
set_option maxRecDepth 20000 in
theorem kX3_about {l : Launch} {K : gw_K} (hst : l.stackTraces = false) {rc mc n : Nat} {dy tch frs : Int32} {h : gw_H} {c m : Nat} {ld rw_ fr ho : Int32} {ch dg : Nat → Int32} {k q : Nat} (r0 : h 0 = (oB 3 [.ref 1, .ref 10, .ref 19, .ref 24, .int (nI mc), .int tch, .int frs])) (f0 : h 1 = (oB 2 [.ref (1 + 1), .ref (1 + 2), .ref (1 + 3), .ref (1 + 4), .ref (1 + 5), .ref (1 + 6), .ref (1 + 7), .ref (1 + 8), .int (nI rc), .int dy])) (l0 : h c = (oB 0 [.ref (c + 1), .ref (c + 2), .int (nI m), .int ld, .int rw_, .int fr, .int ho])) (l1 : h (c + 1) = (aI 12 ch)) (l2 : h (c + 2) = (aI 6 dg)) (la : h 24 = (aQ 5 lsF)) (hk : k < mc) (hm5 : mc ≤ 5) (hck : c = 25 + 3 * k) (hm12 : m ≤ 12) (hq : q < 6) : Ctr l K mX3_about [.ref 0, .int (nI k), .int (nI q)] h n 1 6 (PQ (some (.int (aboutI m ld rw_ fr dg ho q))) h n) (PX0) := by
  refine Ctr.of hst pn_X3_about (Nat.le_of_ble_eq_true rfl) (fun X hX hr hE => ?_)
  have hX : FX l K X cX3_about RX3 8 132 1 6 := hX
  show GW X 0 [some (.ref 0), some (.int (nI k)), some (.int (nI q)), none] [] h n 0 0
  refine g_aload_n hX dX3_about_0 rfl rfl ?_
  refine g_iload_n hX dX3_about_1 rfl rfl ?_
  refine g_callV (As := [.int (nI k)]) hX dX3_about_2 cb_X3_listNumbered ml_X3_115 im_X3_listNumbered se_X3_listNumbered rfl rfl (r0) ⟨_, rfl, rfl⟩ (kX3_listNumbered hst (r0) (la) (by omega) (by omega) (hck)) (Nat.le_of_ble_eq_true rfl) (Nat.le_of_ble_eq_true rfl) (by omega) (by omega) (Nat.le_of_ble_eq_true rfl) GX.no (pq ?_)
  show GW X 5 [some (.ref 0), some (.int (nI k)), some (.int (nI q)), none] [.ref c] h n 0 0
  refine g_astore_n (i := 3) hX dX3_about_5 rfl (Nat.le_of_ble_eq_true rfl) rfl ?_
  refine g_iload_n hX dX3_about_6 rfl rfl ?_
  refine g_bipush (v := (nI 6)) hX dX3_about_7 (by decide) ?_
  refine g_callS (As := [.int (nI q), .int (nI 6)]) hX dX3_about_9 cb_X3_requireIndex ml_X3_33 st_X3_requireIndex rfl rfl (kX3_requireIndex hst (gn_okI hq (by omega))) (Nat.le_of_ble_eq_true rfl) (Nat.le_of_ble_eq_true rfl) (by omega) (by omega) (Nat.le_of_ble_eq_true rfl) GX.no (pq ?_)
  show GW X 12 [some (.ref 0), some (.int (nI k)), some (.int (nI q)), some (.ref c)] [] h n 0 0
  refine g_aload_n hX dX3_about_12 rfl rfl ?_
  refine g_iload_n hX dX3_about_13 rfl rfl ?_
  refine g_callV (As := [.int (nI q)]) hX dX3_about_14 cb_X0_tellOfCourse ml_X3_136 im_X0_tellOfCourse se_X0_tellOfCourse rfl rfl (l0) ⟨_, rfl, rfl⟩ (kX0_tellOfCourse hst (l0) (l2) (by omega)) (Nat.le_of_ble_eq_true rfl) (Nat.le_of_ble_eq_true rfl) (by omega) (by omega) (Nat.le_of_ble_eq_true rfl) GX.no (pq ?_)
  show GW X 17 [some (.ref 0), some (.int (nI k)), some (.int (nI q)), some (.ref c)] [.int (aboutI m ld rw_ fr dg ho q)] h n 0 0
  refine g_ireturn hX hr dX3_about_17 (by omega) (by omega)  ?_
  exact ⟨rfl, rfl, rfl⟩
set_option maxRecDepth 20000 in
theorem kX3_dodges {l : Launch} {K : gw_K} (hst : l.stackTraces = false) {rc mc n : Nat} {dy tch frs : Int32} {h : gw_H} {c m : Nat} {ld rw_ fr ho : Int32} {ch dg : Nat → Int32} {k q : Nat} (r0 : h 0 = (oB 3 [.ref 1, .ref 10, .ref 19, .ref 24, .int (nI mc), .int tch, .int frs])) (f0 : h 1 = (oB 2 [.ref (1 + 1), .ref (1 + 2), .ref (1 + 3), .ref (1 + 4), .ref (1 + 5), .ref (1 + 6), .ref (1 + 7), .ref (1 + 8), .int (nI rc), .int dy])) (l0 : h c = (oB 0 [.ref (c + 1), .ref (c + 2), .int (nI m), .int ld, .int rw_, .int fr, .int ho])) (l1 : h (c + 1) = (aI 12 ch)) (l2 : h (c + 2) = (aI 6 dg)) (la : h 24 = (aQ 5 lsF)) (hk : k < mc) (hm5 : mc ≤ 5) (hck : c = 25 + 3 * k) (hm12 : m ≤ 12) (hq : q < 6) : Ctr l K mX3_dodges [.ref 0, .int (nI k), .int (nI q)] h n 1 6 (PQ (some (.int (dg q))) h n) (PX0) := by
  refine Ctr.of hst pn_X3_dodges (Nat.le_of_ble_eq_true rfl) (fun X hX hr hE => ?_)
  have hX : FX l K X cX3_dodges RX3 8 132 1 6 := hX
  show GW X 0 [some (.ref 0), some (.int (nI k)), some (.int (nI q)), none] [] h n 0 0
  refine g_aload_n hX dX3_dodges_0 rfl rfl ?_
  refine g_iload_n hX dX3_dodges_1 rfl rfl ?_
  refine g_callV (As := [.int (nI k)]) hX dX3_dodges_2 cb_X3_listNumbered ml_X3_115 im_X3_listNumbered se_X3_listNumbered rfl rfl (r0) ⟨_, rfl, rfl⟩ (kX3_listNumbered hst (r0) (la) (by omega) (by omega) (hck)) (Nat.le_of_ble_eq_true rfl) (Nat.le_of_ble_eq_true rfl) (by omega) (by omega) (Nat.le_of_ble_eq_true rfl) GX.no (pq ?_)
  show GW X 5 [some (.ref 0), some (.int (nI k)), some (.int (nI q)), none] [.ref c] h n 0 0
  refine g_astore_n (i := 3) hX dX3_dodges_5 rfl (Nat.le_of_ble_eq_true rfl) rfl ?_
  refine g_iload_n hX dX3_dodges_6 rfl rfl ?_
  refine g_bipush (v := (nI 6)) hX dX3_dodges_7 (by decide) ?_
  refine g_callS (As := [.int (nI q), .int (nI 6)]) hX dX3_dodges_9 cb_X3_requireIndex ml_X3_33 st_X3_requireIndex rfl rfl (kX3_requireIndex hst (gn_okI hq (by omega))) (Nat.le_of_ble_eq_true rfl) (Nat.le_of_ble_eq_true rfl) (by omega) (by omega) (Nat.le_of_ble_eq_true rfl) GX.no (pq ?_)
  show GW X 12 [some (.ref 0), some (.int (nI k)), some (.int (nI q)), some (.ref c)] [] h n 0 0
  refine g_aload_n hX dX3_dodges_12 rfl rfl ?_
  refine g_getf hX dX3_dodges_13 fl_X3_154 (l0) rfl ?_
  refine g_iload_n hX dX3_dodges_16 rfl rfl ?_
  refine g_iaload hX dX3_dodges_17 (l2) (q) (by omega) rfl (by omega) ?_
  refine g_ireturn hX hr dX3_dodges_18 (by omega) (by omega)  ?_
  exact ⟨rfl, rfl, rfl⟩
set_option maxRecDepth 20000 in
theorem kX3_about_m {l : Launch} {K : gw_K} (hst : l.stackTraces = false) {rc mc n : Nat} {dy tch frs : Int32} {h : gw_H} {a b : Int32} (r0 : h 0 = (oB 3 [.ref 1, .ref 10, .ref 19, .ref 24, .int (nI mc), .int tch, .int frs])) (f0 : h 1 = (oB 2 [.ref (1 + 1), .ref (1 + 2), .ref (1 + 3), .ref (1 + 4), .ref (1 + 5), .ref (1 + 6), .ref (1 + 7), .ref (1 + 8), .int (nI rc), .int dy])) (hz : a < 0 ∨ nI mc ≤ a) : Ctr l K mX3_about [.ref 0, .int a, .int b] h n 1 6 (fun _ _ _ => False) (PXQ "java/lang/IndexOutOfBoundsException" h n) := by
  refine Ctr.of hst pn_X3_about (Nat.le_of_ble_eq_true rfl) (fun X hX hr hE => ?_)
  have hX : FX l K X cX3_about RX3 8 132 1 6 := hX
  show GW X 0 [some (.ref 0), some (.int a), some (.int b), none] [] h n 0 0
  refine g_aload_n hX dX3_about_0 rfl rfl ?_
  refine g_iload_n hX dX3_about_1 rfl rfl ?_
  refine g_callV (As := [.int a]) hX dX3_about_2 cb_X3_listNumbered ml_X3_115 im_X3_listNumbered se_X3_listNumbered rfl rfl (r0) ⟨_, rfl, rfl⟩ (kX3_listNumbered_b hst (r0) (f0) (hz)) (Nat.le_of_ble_eq_true rfl) (Nat.le_of_ble_eq_true rfl) (by omega) (by omega) (Nat.le_of_ble_eq_true rfl) ?_ ?_
  · refine px ?_
    refine g_out hX hr hE.1 (by omega) (by omega) ?_
    exact ⟨rfl, rfl, rfl⟩
  · exact fun _ _ _ _ h => h.elim
set_option maxRecDepth 20000 in
theorem kX3_about_w {l : Launch} {K : gw_K} (hst : l.stackTraces = false) {rc mc n : Nat} {dy tch frs : Int32} {h : gw_H} {c m : Nat} {ld rw_ fr ho : Int32} {ch dg : Nat → Int32} {k : Nat} {b : Int32} (r0 : h 0 = (oB 3 [.ref 1, .ref 10, .ref 19, .ref 24, .int (nI mc), .int tch, .int frs])) (f0 : h 1 = (oB 2 [.ref (1 + 1), .ref (1 + 2), .ref (1 + 3), .ref (1 + 4), .ref (1 + 5), .ref (1 + 6), .ref (1 + 7), .ref (1 + 8), .int (nI rc), .int dy])) (l0 : h c = (oB 0 [.ref (c + 1), .ref (c + 2), .int (nI m), .int ld, .int rw_, .int fr, .int ho])) (l1 : h (c + 1) = (aI 12 ch)) (l2 : h (c + 2) = (aI 6 dg)) (la : h 24 = (aQ 5 lsF)) (hk : k < mc) (hm5 : mc ≤ 5) (hck : c = 25 + 3 * k) (hm12 : m ≤ 12) (hz : b < 0 ∨ nI 6 ≤ b) : Ctr l K mX3_about [.ref 0, .int (nI k), .int b] h n 1 6 (fun _ _ _ => False) (PXQ "java/lang/IndexOutOfBoundsException" h n) := by
  refine Ctr.of hst pn_X3_about (Nat.le_of_ble_eq_true rfl) (fun X hX hr hE => ?_)
  have hX : FX l K X cX3_about RX3 8 132 1 6 := hX
  show GW X 0 [some (.ref 0), some (.int (nI k)), some (.int b), none] [] h n 0 0
  refine g_aload_n hX dX3_about_0 rfl rfl ?_
  refine g_iload_n hX dX3_about_1 rfl rfl ?_
  refine g_callV (As := [.int (nI k)]) hX dX3_about_2 cb_X3_listNumbered ml_X3_115 im_X3_listNumbered se_X3_listNumbered rfl rfl (r0) ⟨_, rfl, rfl⟩ (kX3_listNumbered hst (r0) (la) (by omega) (by omega) (hck)) (Nat.le_of_ble_eq_true rfl) (Nat.le_of_ble_eq_true rfl) (by omega) (by omega) (Nat.le_of_ble_eq_true rfl) GX.no (pq ?_)
  show GW X 5 [some (.ref 0), some (.int (nI k)), some (.int b), none] [.ref c] h n 0 0
  refine g_astore_n (i := 3) hX dX3_about_5 rfl (Nat.le_of_ble_eq_true rfl) rfl ?_
  refine g_iload_n hX dX3_about_6 rfl rfl ?_
  refine g_bipush (v := (nI 6)) hX dX3_about_7 (by decide) ?_
  refine g_callS (As := [.int b, .int (nI 6)]) hX dX3_about_9 cb_X3_requireIndex ml_X3_33 st_X3_requireIndex rfl rfl (kX3_requireIndex_x hst (hz)) (Nat.le_of_ble_eq_true rfl) (Nat.le_of_ble_eq_true rfl) (by omega) (by omega) (Nat.le_of_ble_eq_true rfl) ?_ ?_
  · refine px ?_
    refine g_out hX hr hE.1 (by omega) (by omega) ?_
    exact ⟨rfl, rfl, rfl⟩
  · exact fun _ _ _ _ h => h.elim
set_option maxRecDepth 20000 in
theorem kX3_dodges_m {l : Launch} {K : gw_K} (hst : l.stackTraces = false) {rc mc n : Nat} {dy tch frs : Int32} {h : gw_H} {a b : Int32} (r0 : h 0 = (oB 3 [.ref 1, .ref 10, .ref 19, .ref 24, .int (nI mc), .int tch, .int frs])) (f0 : h 1 = (oB 2 [.ref (1 + 1), .ref (1 + 2), .ref (1 + 3), .ref (1 + 4), .ref (1 + 5), .ref (1 + 6), .ref (1 + 7), .ref (1 + 8), .int (nI rc), .int dy])) (hz : a < 0 ∨ nI mc ≤ a) : Ctr l K mX3_dodges [.ref 0, .int a, .int b] h n 1 6 (fun _ _ _ => False) (PXQ "java/lang/IndexOutOfBoundsException" h n) := by
  refine Ctr.of hst pn_X3_dodges (Nat.le_of_ble_eq_true rfl) (fun X hX hr hE => ?_)
  have hX : FX l K X cX3_dodges RX3 8 132 1 6 := hX
  show GW X 0 [some (.ref 0), some (.int a), some (.int b), none] [] h n 0 0
  refine g_aload_n hX dX3_dodges_0 rfl rfl ?_
  refine g_iload_n hX dX3_dodges_1 rfl rfl ?_
  refine g_callV (As := [.int a]) hX dX3_dodges_2 cb_X3_listNumbered ml_X3_115 im_X3_listNumbered se_X3_listNumbered rfl rfl (r0) ⟨_, rfl, rfl⟩ (kX3_listNumbered_b hst (r0) (f0) (hz)) (Nat.le_of_ble_eq_true rfl) (Nat.le_of_ble_eq_true rfl) (by omega) (by omega) (Nat.le_of_ble_eq_true rfl) ?_ ?_
  · refine px ?_
    refine g_out hX hr hE.1 (by omega) (by omega) ?_
    exact ⟨rfl, rfl, rfl⟩
  · exact fun _ _ _ _ h => h.elim
set_option maxRecDepth 20000 in
theorem kX3_dodges_w {l : Launch} {K : gw_K} (hst : l.stackTraces = false) {rc mc n : Nat} {dy tch frs : Int32} {h : gw_H} {c m : Nat} {ld rw_ fr ho : Int32} {ch dg : Nat → Int32} {k : Nat} {b : Int32} (r0 : h 0 = (oB 3 [.ref 1, .ref 10, .ref 19, .ref 24, .int (nI mc), .int tch, .int frs])) (f0 : h 1 = (oB 2 [.ref (1 + 1), .ref (1 + 2), .ref (1 + 3), .ref (1 + 4), .ref (1 + 5), .ref (1 + 6), .ref (1 + 7), .ref (1 + 8), .int (nI rc), .int dy])) (l0 : h c = (oB 0 [.ref (c + 1), .ref (c + 2), .int (nI m), .int ld, .int rw_, .int fr, .int ho])) (l1 : h (c + 1) = (aI 12 ch)) (l2 : h (c + 2) = (aI 6 dg)) (la : h 24 = (aQ 5 lsF)) (hk : k < mc) (hm5 : mc ≤ 5) (hck : c = 25 + 3 * k) (hm12 : m ≤ 12) (hz : b < 0 ∨ nI 6 ≤ b) : Ctr l K mX3_dodges [.ref 0, .int (nI k), .int b] h n 1 6 (fun _ _ _ => False) (PXQ "java/lang/IndexOutOfBoundsException" h n) := by
  refine Ctr.of hst pn_X3_dodges (Nat.le_of_ble_eq_true rfl) (fun X hX hr hE => ?_)
  have hX : FX l K X cX3_dodges RX3 8 132 1 6 := hX
  show GW X 0 [some (.ref 0), some (.int (nI k)), some (.int b), none] [] h n 0 0
  refine g_aload_n hX dX3_dodges_0 rfl rfl ?_
  refine g_iload_n hX dX3_dodges_1 rfl rfl ?_
  refine g_callV (As := [.int (nI k)]) hX dX3_dodges_2 cb_X3_listNumbered ml_X3_115 im_X3_listNumbered se_X3_listNumbered rfl rfl (r0) ⟨_, rfl, rfl⟩ (kX3_listNumbered hst (r0) (la) (by omega) (by omega) (hck)) (Nat.le_of_ble_eq_true rfl) (Nat.le_of_ble_eq_true rfl) (by omega) (by omega) (Nat.le_of_ble_eq_true rfl) GX.no (pq ?_)
  show GW X 5 [some (.ref 0), some (.int (nI k)), some (.int b), none] [.ref c] h n 0 0
  refine g_astore_n (i := 3) hX dX3_dodges_5 rfl (Nat.le_of_ble_eq_true rfl) rfl ?_
  refine g_iload_n hX dX3_dodges_6 rfl rfl ?_
  refine g_bipush (v := (nI 6)) hX dX3_dodges_7 (by decide) ?_
  refine g_callS (As := [.int b, .int (nI 6)]) hX dX3_dodges_9 cb_X3_requireIndex ml_X3_33 st_X3_requireIndex rfl rfl (kX3_requireIndex_x hst (hz)) (Nat.le_of_ble_eq_true rfl) (Nat.le_of_ble_eq_true rfl) (by omega) (by omega) (Nat.le_of_ble_eq_true rfl) ?_ ?_
  · refine px ?_
    refine g_out hX hr hE.1 (by omega) (by omega) ?_
    exact ⟨rfl, rfl, rfl⟩
  · exact fun _ _ _ _ h => h.elim
set_option maxRecDepth 20000 in
theorem kX3_row_m {l : Launch} {K : gw_K} (hst : l.stackTraces = false) {rc mc n : Nat} {dy tch frs : Int32} {h : gw_H} {a b : Int32} (r0 : h 0 = (oB 3 [.ref 1, .ref 10, .ref 19, .ref 24, .int (nI mc), .int tch, .int frs])) (f0 : h 1 = (oB 2 [.ref (1 + 1), .ref (1 + 2), .ref (1 + 3), .ref (1 + 4), .ref (1 + 5), .ref (1 + 6), .ref (1 + 7), .ref (1 + 8), .int (nI rc), .int dy])) (hz : a < 0 ∨ nI mc ≤ a) : Ctr l K mX3_row [.ref 0, .int a, .int b] h n 1 6 (fun _ _ _ => False) (PXQ "java/lang/IndexOutOfBoundsException" h n) := by
  refine Ctr.of hst pn_X3_row (Nat.le_of_ble_eq_true rfl) (fun X hX hr hE => ?_)
  have hX : FX l K X cX3_row RX3 8 132 1 6 := hX
  show GW X 0 [some (.ref 0), some (.int a), some (.int b), none, none, none] [] h n 0 0
  refine g_aload_n hX dX3_row_0 rfl rfl ?_
  refine g_iload_n hX dX3_row_1 rfl rfl ?_
  refine g_callV (As := [.int a]) hX dX3_row_2 cb_X3_listNumbered ml_X3_115 im_X3_listNumbered se_X3_listNumbered rfl rfl (r0) ⟨_, rfl, rfl⟩ (kX3_listNumbered_b hst (r0) (f0) (hz)) (Nat.le_of_ble_eq_true rfl) (Nat.le_of_ble_eq_true rfl) (by omega) (by omega) (Nat.le_of_ble_eq_true rfl) ?_ ?_
  · refine px ?_
    refine g_out hX hr hE.1 (by omega) (by omega) ?_
    exact ⟨rfl, rfl, rfl⟩
  · exact fun _ _ _ _ h => h.elim
set_option maxRecDepth 20000 in
theorem kX3_row_w {l : Launch} {K : gw_K} (hst : l.stackTraces = false) {rc mc n : Nat} {dy tch frs : Int32} {h : gw_H} {c m : Nat} {ld rw_ fr ho : Int32} {ch dg : Nat → Int32} {k : Nat} {b : Int32} (r0 : h 0 = (oB 3 [.ref 1, .ref 10, .ref 19, .ref 24, .int (nI mc), .int tch, .int frs])) (f0 : h 1 = (oB 2 [.ref (1 + 1), .ref (1 + 2), .ref (1 + 3), .ref (1 + 4), .ref (1 + 5), .ref (1 + 6), .ref (1 + 7), .ref (1 + 8), .int (nI rc), .int dy])) (l0 : h c = (oB 0 [.ref (c + 1), .ref (c + 2), .int (nI m), .int ld, .int rw_, .int fr, .int ho])) (l1 : h (c + 1) = (aI 12 ch)) (l2 : h (c + 2) = (aI 6 dg)) (la : h 24 = (aQ 5 lsF)) (hk : k < mc) (hm5 : mc ≤ 5) (hck : c = 25 + 3 * k) (hm12 : m ≤ 12) (hz : b < nI 0 ∨ nI 200 < b) : Ctr l K mX3_row [.ref 0, .int (nI k), .int b] h n 1 6 (fun _ _ _ => False) (PXQ "java/lang/IllegalArgumentException" h n) := by
  refine Ctr.of hst pn_X3_row (Nat.le_of_ble_eq_true rfl) (fun X hX hr hE => ?_)
  have hX : FX l K X cX3_row RX3 8 132 1 6 := hX
  show GW X 0 [some (.ref 0), some (.int (nI k)), some (.int b), none, none, none] [] h n 0 0
  refine g_aload_n hX dX3_row_0 rfl rfl ?_
  refine g_iload_n hX dX3_row_1 rfl rfl ?_
  refine g_callV (As := [.int (nI k)]) hX dX3_row_2 cb_X3_listNumbered ml_X3_115 im_X3_listNumbered se_X3_listNumbered rfl rfl (r0) ⟨_, rfl, rfl⟩ (kX3_listNumbered hst (r0) (la) (by omega) (by omega) (hck)) (Nat.le_of_ble_eq_true rfl) (Nat.le_of_ble_eq_true rfl) (by omega) (by omega) (Nat.le_of_ble_eq_true rfl) GX.no (pq ?_)
  show GW X 5 [some (.ref 0), some (.int (nI k)), some (.int b), none, none, none] [.ref c] h n 0 0
  refine g_astore_n (i := 3) hX dX3_row_5 rfl (Nat.le_of_ble_eq_true rfl) rfl ?_
  refine g_iload_n hX dX3_row_6 rfl rfl ?_
  refine g_iconst (v := (nI 0)) hX dX3_row_7 (by decide) ?_
  refine g_sipush (v := (nI 200)) hX dX3_row_8 (by decide) ?_
  refine g_callS (As := [.int b, .int (nI 0), .int (nI 200)]) hX dX3_row_11 cb_X3_requireWithin ml_X3_37 st_X3_requireWithin rfl rfl (kX3_requireWithin_x hst (hz)) (Nat.le_of_ble_eq_true rfl) (Nat.le_of_ble_eq_true rfl) (by omega) (by omega) (Nat.le_of_ble_eq_true rfl) ?_ ?_
  · refine px ?_
    refine g_out hX hr hE.1 (by omega) (by omega) ?_
    exact ⟨rfl, rfl, rfl⟩
  · exact fun _ _ _ _ h => h.elim
set_option maxRecDepth 20000 in
theorem kX3_row_e {l : Launch} {K : gw_K} (hst : l.stackTraces = false) {rc mc n : Nat} {dy tch frs : Int32} {h : gw_H} {c m : Nat} {ld rw_ fr ho : Int32} {ch dg : Nat → Int32} {k d : Nat} (r0 : h 0 = (oB 3 [.ref 1, .ref 10, .ref 19, .ref 24, .int (nI mc), .int tch, .int frs])) (f0 : h 1 = (oB 2 [.ref (1 + 1), .ref (1 + 2), .ref (1 + 3), .ref (1 + 4), .ref (1 + 5), .ref (1 + 6), .ref (1 + 7), .ref (1 + 8), .int (nI rc), .int dy])) (l0 : h c = (oB 0 [.ref (c + 1), .ref (c + 2), .int (nI m), .int ld, .int rw_, .int fr, .int ho])) (l1 : h (c + 1) = (aI 12 ch)) (l2 : h (c + 2) = (aI 6 dg)) (la : h 24 = (aQ 5 lsF)) (hk : k < mc) (hm5 : mc ≤ 5) (hck : c = 25 + 3 * k) (hm12 : m ≤ 12) (hd : d ≤ 200) (hm0 : m = 0) : Ctr l K mX3_row [.ref 0, .int (nI k), .int (nI d)] h n 1 6 (fun _ _ _ => False) (PXQ "java/lang/IllegalStateException" h n) := by
  refine Ctr.of hst pn_X3_row (Nat.le_of_ble_eq_true rfl) (fun X hX hr hE => ?_)
  have hX : FX l K X cX3_row RX3 8 132 1 6 := hX
  show GW X 0 [some (.ref 0), some (.int (nI k)), some (.int (nI d)), none, none, none] [] h n 0 0
  refine g_aload_n hX dX3_row_0 rfl rfl ?_
  refine g_iload_n hX dX3_row_1 rfl rfl ?_
  refine g_callV (As := [.int (nI k)]) hX dX3_row_2 cb_X3_listNumbered ml_X3_115 im_X3_listNumbered se_X3_listNumbered rfl rfl (r0) ⟨_, rfl, rfl⟩ (kX3_listNumbered hst (r0) (la) (by omega) (by omega) (hck)) (Nat.le_of_ble_eq_true rfl) (Nat.le_of_ble_eq_true rfl) (by omega) (by omega) (Nat.le_of_ble_eq_true rfl) GX.no (pq ?_)
  show GW X 5 [some (.ref 0), some (.int (nI k)), some (.int (nI d)), none, none, none] [.ref c] h n 0 0
  refine g_astore_n (i := 3) hX dX3_row_5 rfl (Nat.le_of_ble_eq_true rfl) rfl ?_
  refine g_iload_n hX dX3_row_6 rfl rfl ?_
  refine g_iconst (v := (nI 0)) hX dX3_row_7 (by decide) ?_
  refine g_sipush (v := (nI 200)) hX dX3_row_8 (by decide) ?_
  refine g_callS (As := [.int (nI d), .int (nI 0), .int (nI 200)]) hX dX3_row_11 cb_X3_requireWithin ml_X3_37 st_X3_requireWithin rfl rfl (kX3_requireWithin hst (gn_okW (by omega) hd (by omega))) (Nat.le_of_ble_eq_true rfl) (Nat.le_of_ble_eq_true rfl) (by omega) (by omega) (Nat.le_of_ble_eq_true rfl) GX.no (pq ?_)
  show GW X 14 [some (.ref 0), some (.int (nI k)), some (.int (nI d)), some (.ref c), none, none] [] h n 0 0
  refine g_aload_n hX dX3_row_14 rfl rfl ?_
  refine g_getf hX dX3_row_15 fl_X3_124 (l0) rfl ?_
  refine g_if_neN (tgt := 31) hX dX3_row_18 (by decide) (by omega) (fun c1 => absurd c1 (by omega)) (fun c1 => ?_)
  refine g_throwS hX hr hE.1 ts_45_139_49 dX3_row_21 dX3_row_24 dX3_row_25 dX3_row_27 dX3_row_30 (Nat.le_of_ble_eq_true rfl) (Nat.le_of_ble_eq_true rfl) (by omega) (by omega) ?_
  exact ⟨rfl, rfl, rfl⟩
set_option maxRecDepth 20000 in
theorem kX3_row {l : Launch} {K : gw_K} (hst : l.stackTraces = false) {rc mc n : Nat} {dy tch frs : Int32} {h : gw_H} {orc : Nat} {ody : Int32} {owd osk ovt oti ofa otf ost ows : Nat → Int32} {pl mv ma : Nat → Int32} {sn : Nat → Int64} {cm rr : Int32} {c m : Nat} {ld rw_ fr ho : Int32} {ch dg : Nat → Int32} {k d : Nat} (r0 : h 0 = (oB 3 [.ref 1, .ref 10, .ref 19, .ref 24, .int (nI mc), .int tch, .int frs])) (f0 : h 1 = (oB 2 [.ref (1 + 1), .ref (1 + 2), .ref (1 + 3), .ref (1 + 4), .ref (1 + 5), .ref (1 + 6), .ref (1 + 7), .ref (1 + 8), .int (nI rc), .int dy])) (o0 : h 10 = (oB 2 [.ref (10 + 1), .ref (10 + 2), .ref (10 + 3), .ref (10 + 4), .ref (10 + 5), .ref (10 + 6), .ref (10 + 7), .ref (10 + 8), .int (nI orc), .int ody])) (owd : h (10 + 1) = (aI 20 owd)) (osk : h (10 + 2) = (aI 20 osk)) (ovt : h (10 + 3) = (aI 20 ovt)) (oti : h (10 + 4) = (aI 20 oti)) (ofa : h (10 + 5) = (aI 20 ofa)) (otf : h (10 + 6) = (aI 20 otf)) (ost : h (10 + 7) = (aI 20 ost)) (ows : h (10 + 8) = (aI 18 ows)) (g0 : h 19 = (oB 1 [.ref (19 + 1), .ref (19 + 2), .ref (19 + 3), .ref (19 + 4), .int cm, .int rr])) (g1 : h (19 + 1) = (aI 6 pl)) (g2 : h (19 + 2) = (aI 6 mv)) (g3 : h (19 + 3) = (aI 6 ma)) (g4 : h (19 + 4) = (aJ 122 sn)) (l0 : h c = (oB 0 [.ref (c + 1), .ref (c + 2), .int (nI m), .int ld, .int rw_, .int fr, .int ho])) (l1 : h (c + 1) = (aI 12 ch)) (l2 : h (c + 2) = (aI 6 dg)) (la : h 24 = (aQ 5 lsF)) (hk : k < mc) (hm5 : mc ≤ 5) (hck : c = 25 + 3 * k) (hm12 : m ≤ 12) (hd : d ≤ 200) (hm0 : 0 < m) (hch : ∀ i, i < m → vchg (ch i)) : Ctr l K mX3_row [.ref 0, .int (nI k), .int (nI d)] h n 1 6 (PS (some (.int (rowI (rowT ch m d ma).2.1))) h n) (PX0) := by
  refine Ctr.of hst pn_X3_row (Nat.le_of_ble_eq_true rfl) (fun X hX hr hE => ?_)
  have hX : FX l K X cX3_row RX3 8 132 1 6 := hX
  show GW X 0 [some (.ref 0), some (.int (nI k)), some (.int (nI d)), none, none, none] [] h n 0 0
  refine g_aload_n hX dX3_row_0 rfl rfl ?_
  refine g_iload_n hX dX3_row_1 rfl rfl ?_
  refine g_callV (As := [.int (nI k)]) hX dX3_row_2 cb_X3_listNumbered ml_X3_115 im_X3_listNumbered se_X3_listNumbered rfl rfl (r0) ⟨_, rfl, rfl⟩ (kX3_listNumbered hst (r0) (la) (by omega) (by omega) (hck)) (Nat.le_of_ble_eq_true rfl) (Nat.le_of_ble_eq_true rfl) (by omega) (by omega) (Nat.le_of_ble_eq_true rfl) GX.no (pq ?_)
  show GW X 5 [some (.ref 0), some (.int (nI k)), some (.int (nI d)), none, none, none] [.ref c] h n 0 0
  refine g_astore_n (i := 3) hX dX3_row_5 rfl (Nat.le_of_ble_eq_true rfl) rfl ?_
  refine g_iload_n hX dX3_row_6 rfl rfl ?_
  refine g_iconst (v := (nI 0)) hX dX3_row_7 (by decide) ?_
  refine g_sipush (v := (nI 200)) hX dX3_row_8 (by decide) ?_
  refine g_callS (As := [.int (nI d), .int (nI 0), .int (nI 200)]) hX dX3_row_11 cb_X3_requireWithin ml_X3_37 st_X3_requireWithin rfl rfl (kX3_requireWithin hst (gn_okW (by omega) hd (by omega))) (Nat.le_of_ble_eq_true rfl) (Nat.le_of_ble_eq_true rfl) (by omega) (by omega) (Nat.le_of_ble_eq_true rfl) GX.no (pq ?_)
  show GW X 14 [some (.ref 0), some (.int (nI k)), some (.int (nI d)), some (.ref c), none, none] [] h n 0 0
  refine g_aload_n hX dX3_row_14 rfl rfl ?_
  refine g_getf hX dX3_row_15 fl_X3_124 (l0) rfl ?_
  refine g_if_neN (tgt := 31) hX dX3_row_18 (by decide) (by omega) (fun c1 => ?_) (fun c1 => absurd c1 (by omega))
  refine g_aload_n hX dX3_row_31 rfl rfl ?_
  refine g_getf hX dX3_row_32 fl_X3_22 (r0) rfl ?_
  refine g_callV (As := []) hX dX3_row_35 cb_X1_begin ml_X3_141 im_X1_begin se_X1_begin rfl rfl (g0) ⟨_, rfl, rfl⟩ (kX1_begin hst (g0) (g1) (g2) (g3) (g4)) (Nat.le_of_ble_eq_true rfl) (Nat.le_of_ble_eq_true rfl) (by omega) (by omega) (Nat.le_of_ble_eq_true rfl) GX.no (pq ?_)
  show GW X 38 [some (.ref 0), some (.int (nI k)), some (.int (nI d)), some (.ref c), none, none] [] (putT h 19 (tbegin ma)) n 0 0
  refine g_iconst (v := (nI 0)) hX dX3_row_38 (by decide) ?_
  refine g_istore hX dX3_row_39 (Nat.le_of_ble_eq_true rfl) rfl ?_
  refine g_iconst (v := (nI 0)) hX dX3_row_41 (by decide) ?_
  refine g_istore hX dX3_row_42 (Nat.le_of_ble_eq_true rfl) rfl ?_
  have hA := rowT_ok (ma := ma) hm0 hch d
  refine g_cg (L' := [some (.ref 0), some (.int (nI k)), some (.int (nI d)), some (.ref c), some (.int (nI (((0, tbegin ma) : Nat × TT).1))), some (.int (nI 0))]) (h' := (putT h 19 (((0, tbegin ma) : Nat × TT).2))) (by rfl) (by rfl) ?_
  refine g_for (P := fun (i : Nat) (s : Nat × TT) => GW X 44 [some (.ref 0), some (.int (nI k)), some (.int (nI d)), some (.ref c), some (.int (nI s.1)), some (.int (nI i))] [] (putT h 19 s.2) n 0 0) (step := fun i s => rowS ch m s) d ((0, tbegin ma) : Nat × TT) ?_ ?_
  · intro i2 ⟨xs3, ts3⟩ hi2 es3 ihi2
    have ihi2 : GW X 44 [some (.ref 0), some (.int (nI k)), some (.int (nI d)), some (.ref c), some (.int (nI ((rowS ch m (xs3, ts3)).1))), some (.int (nI (i2 + 1)))] [] (putT h 19 ((rowS ch m (xs3, ts3)).2)) n 0 0 := ihi2
    have q9 := hA i2 (by omega)
    rw [← es3] at q9
    have hx9 : xs3 < m := q9.1
    have hp9 : vplc ts3.1 := q9.2
    have hc9 := hch xs3 hx9
    refine g_iload hX dX3_row_44 rfl ?_
    refine g_iload_n hX dX3_row_46 rfl rfl ?_
    refine g_icmp_geN (tgt := 90) hX dX3_row_47 (by decide) (by omega) (fun c4 => absurd c4 (by omega)) (fun c4 => ?_)
    refine g_aload_n hX dX3_row_50 rfl rfl ?_
    refine g_getf hX dX3_row_51 fl_X3_22 ((putT_ne (by omega)).trans (r0)) rfl ?_
    refine g_aload_n hX dX3_row_54 rfl rfl ?_
    refine g_iload hX dX3_row_55 rfl ?_
    refine g_callV (As := [.int (nI xs3)]) hX dX3_row_57 cb_X0_changeAt ml_X3_144 im_X0_changeAt se_X0_changeAt rfl rfl ((putT_ne (by omega)).trans (l0)) ⟨_, rfl, rfl⟩ (kX0_changeAt hst ((putT_ne (by omega)).trans (l0)) ((putT_ne (by omega)).trans (l1)) (by omega) (by omega)) (Nat.le_of_ble_eq_true rfl) (Nat.le_of_ble_eq_true rfl) (by omega) (by omega) (Nat.le_of_ble_eq_true rfl) GX.no (pq ?_)
    show GW X 60 [some (.ref 0), some (.int (nI k)), some (.int (nI d)), some (.ref c), some (.int (nI xs3)), some (.int (nI i2))] [.int (ch xs3), .ref 19] (putT h 19 ts3) n 0 0
    refine g_callV (As := [.int (ch xs3)]) hX dX3_row_60 cb_X1_makeChange ml_X3_147 im_X1_makeChange se_X1_makeChange rfl rfl (putT_0) ⟨_, rfl, rfl⟩ (kX1_makeChange hst (putT_0) (putT_1) (putT_2) (putT_3) (putT_4) (hc9) (hp9)) (Nat.le_of_ble_eq_true rfl) (Nat.le_of_ble_eq_true rfl) (by omega) (by omega) (Nat.le_of_ble_eq_true rfl) GX.no (pq ?_)
    show GW X 63 [some (.ref 0), some (.int (nI k)), some (.int (nI d)), some (.ref c), some (.int (nI xs3)), some (.int (nI i2))] [] (putT (putT h 19 ts3) 19 (tstep (ch xs3) ts3)) n 0 0
    refine g_cg rfl putT_putT ?_
    refine g_iload hX dX3_row_63 rfl ?_
    refine g_iconst (v := (nI 1)) hX dX3_row_65 (by decide) ?_
    refine g_iaddN hX dX3_row_66 ?_
    refine g_aload_n hX dX3_row_67 rfl rfl ?_
    refine g_getf hX dX3_row_68 fl_X3_124 ((putT_ne (by omega)).trans (l0)) rfl ?_
    refine g_icmp_geN (tgt := 81) hX dX3_row_71 (by decide) (by omega) (fun c5 => ?_) (fun c5 => ?_)
    · refine g_iconst (v := (nI 0)) hX dX3_row_81 (by decide) ?_
      refine g_istore hX dX3_row_82 (Nat.le_of_ble_eq_true rfl) rfl ?_
      refine g_iinc (v := (nI (i2 + 1))) hX dX3_row_84 rfl rfl (gn_inc _ _) ?_
      refine g_goto (tgt := 44) hX dX3_row_87 (by decide) ?_
      refine g_cv ihi2 (by simp only [rowS]; rw [if_pos (by omega)]; rfl) rfl
    · refine g_iload hX dX3_row_74 rfl ?_
      refine g_iconst (v := (nI 1)) hX dX3_row_76 (by decide) ?_
      refine g_iaddN hX dX3_row_77 ?_
      refine g_goto (tgt := 82) hX dX3_row_78 (by decide) ?_
      refine g_istore hX dX3_row_82 (Nat.le_of_ble_eq_true rfl) rfl ?_
      refine g_iinc (v := (nI (i2 + 1))) hX dX3_row_84 rfl rfl (gn_inc _ _) ?_
      refine g_goto (tgt := 44) hX dX3_row_87 (by decide) ?_
      refine g_cv ihi2 (by simp only [rowS]; rw [if_neg (by omega)]; rfl) rfl
  · refine g_iload hX dX3_row_44 rfl ?_
    refine g_iload_n hX dX3_row_46 rfl rfl ?_
    refine g_icmp_geN (tgt := 90) hX dX3_row_47 (by decide) (by omega) (fun c6 => ?_) (fun c6 => absurd c6 (by omega))
    have hpF : vplc (rowT ch m d ma).2.1 := (hA d (Nat.le_refl d)).2
    show GW X 90 [some (.ref 0), some (.int (nI k)), some (.int (nI d)), some (.ref c), some (.int (nI ((itr (fun i s => rowS ch m s) d ((0, tbegin ma) : Nat × TT)).1))), some (.int (nI d))] [] (putT h 19 ((rowT ch m d ma).2)) n 0 0
    refine g_aload_n hX dX3_row_90 rfl rfl ?_
    refine g_getf hX dX3_row_91 fl_X3_22 ((putT_ne (by omega)).trans (r0)) rfl ?_
    refine g_callV (As := []) hX dX3_row_94 cb_X1_rowCode ml_X3_150 im_X1_rowCode se_X1_rowCode rfl rfl (putT_0) ⟨_, rfl, rfl⟩ (kX1_rowCode hst (putT_0) (putT_1) (hpF)) (Nat.le_of_ble_eq_true rfl) (Nat.le_of_ble_eq_true rfl) (by omega) (by omega) (Nat.le_of_ble_eq_true rfl) GX.no (pq ?_)
    show GW X 97 [some (.ref 0), some (.int (nI k)), some (.int (nI d)), some (.ref c), some (.int (nI ((itr (fun i s => rowS ch m s) d ((0, tbegin ma) : Nat × TT)).1))), some (.int (nI d))] [.int (rowI ((rowT ch m d ma).2.1))] (putT h 19 ((rowT ch m d ma).2)) n 0 0
    refine g_ireturn hX hr dX3_row_97 (by omega) (by omega)  ?_
    exact ⟨rfl, rfl, fun j hj => (putT_ne (by omega)).trans (rfl), ⟨_, _, _, _, _, _, _, _, _, _, ((putT_ne (by omega)).trans (o0)), ((putT_ne (by omega)).trans (owd)), ((putT_ne (by omega)).trans (osk)), ((putT_ne (by omega)).trans (ovt)), ((putT_ne (by omega)).trans (oti)), ((putT_ne (by omega)).trans (ofa)), ((putT_ne (by omega)).trans (otf)), ((putT_ne (by omega)).trans (ost)), ((putT_ne (by omega)).trans (ows))⟩, ⟨_, _, _, _, _, _, putT_0, putT_1, putT_2, putT_3, putT_4⟩⟩
