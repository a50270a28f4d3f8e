set_option maxRecDepth 20000 in
theorem kX5_ringer_w {l : Launch} {K : gw_K} (hst : l.stackTraces = false) {n : Nat} {h : gw_H} {rc mc : Nat} {thr tch frs len dy ady : Int32} {mn : Nat → Nat} {wd sk ws cs co dg rw_ go we vt ti fa st avt ati afa ast : Nat → Int32} {a b d : Int32} (m0 : h 40 = (oB 5 [.int thr, .int (nI rc), .ref 41, .ref 42, .ref 43, .int (nI mc), .ref 44, .ref 45, .int tch, .int frs, .ref 46, .ref 47, .int len, .ref 48, .ref 49, .ref 50, .ref 51, .ref 56])) (mwd : h 41 = (aI 20 wd)) (msk : h 42 = (aI 20 sk)) (mws : h 43 = (aI 18 ws)) (mmn : h 44 = (aI 5 (fun k => nI (mn k)))) (mcs : h 45 = (aI 60 cs)) (mco : h 46 = (aI 201 co)) (mdg : h 47 = (aI 201 dg)) (mrw : h 48 = (aI 6 rw_)) (mgo : h 49 = (aI 6 go)) (mwe : h 50 = (aI 6 we)) (s0 : h 51 = (oB 4 [.int dy, .ref (51 + 1), .ref (51 + 2), .ref (51 + 3), .ref (51 + 4), .ref 40])) (svt : h (51 + 1) = (aI 20 vt)) (sti : h (51 + 2) = (aI 20 ti)) (sfa : h (51 + 3) = (aI 20 fa)) (sst : h (51 + 4) = (aI 20 st)) (a0 : h 56 = (oB 4 [.int ady, .ref (56 + 1), .ref (56 + 2), .ref (56 + 3), .ref (56 + 4), .ref 40])) (avt : h (56 + 1) = (aI 20 avt)) (ati : h (56 + 2) = (aI 20 ati)) (afa : h (56 + 3) = (aI 20 afa)) (ast : h (56 + 4) = (aI 20 ast)) (hn62 : 62 ≤ n) (hz : a < 0 ∨ nI 4 ≤ a) : Ctr l K mX5_ringer [.ref 40, .int a, .int b, .int d] h n 0 0 (PM (some (.int (nI 0))) h n (nI 1) rc mc tch frs) (PX0) := by
  refine Ctr.of hst pn_X5_ringer (Nat.le_of_ble_eq_true rfl) (fun X hX hr hE => ?_)
  have hX : FX l K X cX5_ringer RX5 1 22 0 0 := hX
  show GW X 0 [some (.ref 40), some (.int a), some (.int b), some (.int d)] [] h n 0 0
  refine g_aload_n hX dX5_ringer_0 rfl rfl ?_
  refine g_iconst (v := (nI 0)) hX dX5_ringer_1 (by decide) ?_
  refine g_putI hX dX5_ringer_2 fl_X5_52 (m0) (Nat.le_of_ble_eq_true rfl) ?_
  show GW X 5 [some (.ref 40), some (.int a), some (.int b), some (.int d)] [] (hs h 40 (oB 5 [.int (nI 0), .int (nI rc), .ref 41, .ref 42, .ref 43, .int (nI mc), .ref 44, .ref 45, .int tch, .int frs, .ref 46, .ref 47, .int len, .ref 48, .ref 49, .ref 50, .ref 51, .ref 56])) n 0 0
  refine g_iload_n hX dX5_ringer_5 rfl rfl ?_
  refine g_iconst (v := (nI 0)) hX dX5_ringer_6 (by decide) ?_
  refine g_iconst (v := (nI 3)) hX dX5_ringer_7 (by decide) ?_
  refine g_callS (As := [.int a, .int (nI 0), .int (nI 3)]) hX dX5_ringer_8 cb_X5_isIn ml_X5_59 st_X5_isIn rfl rfl (kX5_isIn_x hst (hz.imp id (gn_up (by omega)))) (Nat.le_of_ble_eq_true rfl) (Nat.le_of_ble_eq_true rfl) (by omega) (by omega) (Nat.le_of_ble_eq_true rfl) GX.no (pq ?_)
  show GW X 11 [some (.ref 40), some (.int a), some (.int b), some (.int d)] [.int (nI 0)] (hs h 40 (oB 5 [.int (nI 0), .int (nI rc), .ref 41, .ref 42, .ref 43, .int (nI mc), .ref 44, .ref 45, .int tch, .int frs, .ref 46, .ref 47, .int len, .ref 48, .ref 49, .ref 50, .ref 51, .ref 56])) n 0 0
  refine g_if_ne (tgt := 20) hX dX5_ringer_11 (by decide) (fun c => absurd c (by decide)) (fun _ => ?_)
  refine g_aload_n hX dX5_ringer_14 rfl rfl ?_
  refine g_iconst (v := (nI 1)) hX dX5_ringer_15 (by decide) ?_
  refine g_callV (As := [.int (nI 1)]) hX dX5_ringer_16 cb_X5_no ml_X5_84 im_X5_no se_X5_no rfl rfl (hs_eq _ _ _) ⟨_, rfl, rfl⟩ (kX5_no hst (hs_eq _ _ _) ) (Nat.le_of_ble_eq_true rfl) (Nat.le_of_ble_eq_true rfl) (by omega) (by omega) (Nat.le_of_ble_eq_true rfl) GX.no (pq ?_)
  show GW X 19 [some (.ref 40), some (.int a), some (.int b), some (.int d)] [.int (nI 0)] (hs (hs h 40 (oB 5 [.int (nI 0), .int (nI rc), .ref 41, .ref 42, .ref 43, .int (nI mc), .ref 44, .ref 45, .int tch, .int frs, .ref 46, .ref 47, .int len, .ref 48, .ref 49, .ref 50, .ref 51, .ref 56])) 40 (oB 5 [.int (nI 1), .int (nI rc), .ref 41, .ref 42, .ref 43, .int (nI mc), .ref 44, .ref 45, .int tch, .int frs, .ref 46, .ref 47, .int len, .ref 48, .ref 49, .ref 50, .ref 51, .ref 56])) n 0 0
  refine g_cg rfl hs_hs ?_
  refine g_ireturn hX hr dX5_ringer_19 (Nat.le_refl _) (Nat.le_refl _)  ?_
  exact ⟨rfl, rfl, fun j hj => (hs_ne (by omega)).trans (rfl), ⟨_, _, _, _, _, _, _, _, _, _, _, (hs_eq _ _ _), ((hs_ne (by omega)).trans (mco)), ((hs_ne (by omega)).trans (mdg)), ((hs_ne (by omega)).trans (mrw)), ((hs_ne (by omega)).trans (mgo)), ((hs_ne (by omega)).trans (mwe)), ((hs_ne (by omega)).trans (a0)), ((hs_ne (by omega)).trans (avt)), ((hs_ne (by omega)).trans (ati)), ((hs_ne (by omega)).trans (afa)), ((hs_ne (by omega)).trans (ast))⟩⟩
set_option maxRecDepth 20000 in
theorem kX5_ringer_s {l : Launch} {K : gw_K} (hst : l.stackTraces = false) {n : Nat} {h : gw_H} {rc mc : Nat} {thr tch frs len dy ady : Int32} {mn : Nat → Nat} {wd sk ws cs co dg rw_ go we vt ti fa st avt ati afa ast : Nat → Int32} {a : Nat} {b d : Int32} (m0 : h 40 = (oB 5 [.int thr, .int (nI rc), .ref 41, .ref 42, .ref 43, .int (nI mc), .ref 44, .ref 45, .int tch, .int frs, .ref 46, .ref 47, .int len, .ref 48, .ref 49, .ref 50, .ref 51, .ref 56])) (mwd : h 41 = (aI 20 wd)) (msk : h 42 = (aI 20 sk)) (mws : h 43 = (aI 18 ws)) (mmn : h 44 = (aI 5 (fun k => nI (mn k)))) (mcs : h 45 = (aI 60 cs)) (mco : h 46 = (aI 201 co)) (mdg : h 47 = (aI 201 dg)) (mrw : h 48 = (aI 6 rw_)) (mgo : h 49 = (aI 6 go)) (mwe : h 50 = (aI 6 we)) (s0 : h 51 = (oB 4 [.int dy, .ref (51 + 1), .ref (51 + 2), .ref (51 + 3), .ref (51 + 4), .ref 40])) (svt : h (51 + 1) = (aI 20 vt)) (sti : h (51 + 2) = (aI 20 ti)) (sfa : h (51 + 3) = (aI 20 fa)) (sst : h (51 + 4) = (aI 20 st)) (a0 : h 56 = (oB 4 [.int ady, .ref (56 + 1), .ref (56 + 2), .ref (56 + 3), .ref (56 + 4), .ref 40])) (avt : h (56 + 1) = (aI 20 avt)) (ati : h (56 + 2) = (aI 20 ati)) (afa : h (56 + 3) = (aI 20 afa)) (ast : h (56 + 4) = (aI 20 ast)) (hn62 : 62 ≤ n) (ha : a < 4) (hz : b < nI 0 ∨ nI 9 < b) : Ctr l K mX5_ringer [.ref 40, .int (nI a), .int b, .int d] h n 0 0 (PM (some (.int (nI 0))) h n (nI 2) rc mc tch frs) (PX0) := by
  refine Ctr.of hst pn_X5_ringer (Nat.le_of_ble_eq_true rfl) (fun X hX hr hE => ?_)
  have hX : FX l K X cX5_ringer RX5 1 22 0 0 := hX
  show GW X 0 [some (.ref 40), some (.int (nI a)), some (.int b), some (.int d)] [] h n 0 0
  refine g_aload_n hX dX5_ringer_0 rfl rfl ?_
  refine g_iconst (v := (nI 0)) hX dX5_ringer_1 (by decide) ?_
  refine g_putI hX dX5_ringer_2 fl_X5_52 (m0) (Nat.le_of_ble_eq_true rfl) ?_
  show GW X 5 [some (.ref 40), some (.int (nI a)), some (.int b), some (.int d)] [] (hs h 40 (oB 5 [.int (nI 0), .int (nI rc), .ref 41, .ref 42, .ref 43, .int (nI mc), .ref 44, .ref 45, .int tch, .int frs, .ref 46, .ref 47, .int len, .ref 48, .ref 49, .ref 50, .ref 51, .ref 56])) n 0 0
  refine g_iload_n hX dX5_ringer_5 rfl rfl ?_
  refine g_iconst (v := (nI 0)) hX dX5_ringer_6 (by decide) ?_
  refine g_iconst (v := (nI 3)) hX dX5_ringer_7 (by decide) ?_
  refine g_callS (As := [.int (nI a), .int (nI 0), .int (nI 3)]) hX dX5_ringer_8 cb_X5_isIn ml_X5_59 st_X5_isIn rfl rfl (kX5_isIn hst (gn_okW (by omega) (by omega) (by omega))) (Nat.le_of_ble_eq_true rfl) (Nat.le_of_ble_eq_true rfl) (by omega) (by omega) (Nat.le_of_ble_eq_true rfl) GX.no (pq ?_)
  show GW X 11 [some (.ref 40), some (.int (nI a)), some (.int b), some (.int d)] [.int (nI 1)] (hs h 40 (oB 5 [.int (nI 0), .int (nI rc), .ref 41, .ref 42, .ref 43, .int (nI mc), .ref 44, .ref 45, .int tch, .int frs, .ref 46, .ref 47, .int len, .ref 48, .ref 49, .ref 50, .ref 51, .ref 56])) n 0 0
  refine g_if_ne (tgt := 20) hX dX5_ringer_11 (by decide) (fun _ => ?_) (fun c => absurd c (by decide))
  refine g_iload_n hX dX5_ringer_20 rfl rfl ?_
  refine g_iconst (v := (nI 0)) hX dX5_ringer_21 (by decide) ?_
  refine g_bipush (v := (nI 9)) hX dX5_ringer_22 (by decide) ?_
  refine g_callS (As := [.int b, .int (nI 0), .int (nI 9)]) hX dX5_ringer_24 cb_X5_isIn ml_X5_59 st_X5_isIn rfl rfl (kX5_isIn_x hst (hz)) (Nat.le_of_ble_eq_true rfl) (Nat.le_of_ble_eq_true rfl) (by omega) (by omega) (Nat.le_of_ble_eq_true rfl) GX.no (pq ?_)
  show GW X 27 [some (.ref 40), some (.int (nI a)), some (.int b), some (.int d)] [.int (nI 0)] (hs h 40 (oB 5 [.int (nI 0), .int (nI rc), .ref 41, .ref 42, .ref 43, .int (nI mc), .ref 44, .ref 45, .int tch, .int frs, .ref 46, .ref 47, .int len, .ref 48, .ref 49, .ref 50, .ref 51, .ref 56])) n 0 0
  refine g_if_eq (tgt := 40) hX dX5_ringer_27 (by decide) (fun _ => ?_) (fun c => absurd (by decide) c)
  refine g_aload_n hX dX5_ringer_40 rfl rfl ?_
  refine g_iconst (v := (nI 2)) hX dX5_ringer_41 (by decide) ?_
  refine g_callV (As := [.int (nI 2)]) hX dX5_ringer_42 cb_X5_no ml_X5_84 im_X5_no se_X5_no rfl rfl (hs_eq _ _ _) ⟨_, rfl, rfl⟩ (kX5_no hst (hs_eq _ _ _) ) (Nat.le_of_ble_eq_true rfl) (Nat.le_of_ble_eq_true rfl) (by omega) (by omega) (Nat.le_of_ble_eq_true rfl) GX.no (pq ?_)
  show GW X 45 [some (.ref 40), some (.int (nI a)), some (.int b), some (.int d)] [.int (nI 0)] (hs (hs h 40 (oB 5 [.int (nI 0), .int (nI rc), .ref 41, .ref 42, .ref 43, .int (nI mc), .ref 44, .ref 45, .int tch, .int frs, .ref 46, .ref 47, .int len, .ref 48, .ref 49, .ref 50, .ref 51, .ref 56])) 40 (oB 5 [.int (nI 2), .int (nI rc), .ref 41, .ref 42, .ref 43, .int (nI mc), .ref 44, .ref 45, .int tch, .int frs, .ref 46, .ref 47, .int len, .ref 48, .ref 49, .ref 50, .ref 51, .ref 56])) n 0 0
  refine g_cg rfl hs_hs ?_
  refine g_ireturn hX hr dX5_ringer_45 (Nat.le_refl _) (Nat.le_refl _)  ?_
  exact ⟨rfl, rfl, fun j hj => (hs_ne (by omega)).trans (rfl), ⟨_, _, _, _, _, _, _, _, _, _, _, (hs_eq _ _ _), ((hs_ne (by omega)).trans (mco)), ((hs_ne (by omega)).trans (mdg)), ((hs_ne (by omega)).trans (mrw)), ((hs_ne (by omega)).trans (mgo)), ((hs_ne (by omega)).trans (mwe)), ((hs_ne (by omega)).trans (a0)), ((hs_ne (by omega)).trans (avt)), ((hs_ne (by omega)).trans (ati)), ((hs_ne (by omega)).trans (afa)), ((hs_ne (by omega)).trans (ast))⟩⟩
set_option maxRecDepth 20000 in
theorem kX5_ringer_v {l : Launch} {K : gw_K} (hst : l.stackTraces = false) {n : Nat} {h : gw_H} {rc mc : Nat} {thr tch frs len dy ady : Int32} {mn : Nat → Nat} {wd sk ws cs co dg rw_ go we vt ti fa st avt ati afa ast : Nat → Int32} {a : Nat} {b d : Int32} (m0 : h 40 = (oB 5 [.int thr, .int (nI rc), .ref 41, .ref 42, .ref 43, .int (nI mc), .ref 44, .ref 45, .int tch, .int frs, .ref 46, .ref 47, .int len, .ref 48, .ref 49, .ref 50, .ref 51, .ref 56])) (mwd : h 41 = (aI 20 wd)) (msk : h 42 = (aI 20 sk)) (mws : h 43 = (aI 18 ws)) (mmn : h 44 = (aI 5 (fun k => nI (mn k)))) (mcs : h 45 = (aI 60 cs)) (mco : h 46 = (aI 201 co)) (mdg : h 47 = (aI 201 dg)) (mrw : h 48 = (aI 6 rw_)) (mgo : h 49 = (aI 6 go)) (mwe : h 50 = (aI 6 we)) (s0 : h 51 = (oB 4 [.int dy, .ref (51 + 1), .ref (51 + 2), .ref (51 + 3), .ref (51 + 4), .ref 40])) (svt : h (51 + 1) = (aI 20 vt)) (sti : h (51 + 2) = (aI 20 ti)) (sfa : h (51 + 3) = (aI 20 fa)) (sst : h (51 + 4) = (aI 20 st)) (a0 : h 56 = (oB 4 [.int ady, .ref (56 + 1), .ref (56 + 2), .ref (56 + 3), .ref (56 + 4), .ref 40])) (avt : h (56 + 1) = (aI 20 avt)) (ati : h (56 + 2) = (aI 20 ati)) (afa : h (56 + 3) = (aI 20 afa)) (ast : h (56 + 4) = (aI 20 ast)) (hn62 : 62 ≤ n) (ha : a < 4) (hy : ¬ (b < nI 0 ∨ nI 9 < b)) (hz : d < nI 0 ∨ nI 99 < d) : Ctr l K mX5_ringer [.ref 40, .int (nI a), .int b, .int d] h n 0 0 (PM (some (.int (nI 0))) h n (nI 2) rc mc tch frs) (PX0) := by
  refine Ctr.of hst pn_X5_ringer (Nat.le_of_ble_eq_true rfl) (fun X hX hr hE => ?_)
  have hX : FX l K X cX5_ringer RX5 1 22 0 0 := hX
  show GW X 0 [some (.ref 40), some (.int (nI a)), some (.int b), some (.int d)] [] h n 0 0
  refine g_aload_n hX dX5_ringer_0 rfl rfl ?_
  refine g_iconst (v := (nI 0)) hX dX5_ringer_1 (by decide) ?_
  refine g_putI hX dX5_ringer_2 fl_X5_52 (m0) (Nat.le_of_ble_eq_true rfl) ?_
  show GW X 5 [some (.ref 40), some (.int (nI a)), some (.int b), some (.int d)] [] (hs h 40 (oB 5 [.int (nI 0), .int (nI rc), .ref 41, .ref 42, .ref 43, .int (nI mc), .ref 44, .ref 45, .int tch, .int frs, .ref 46, .ref 47, .int len, .ref 48, .ref 49, .ref 50, .ref 51, .ref 56])) n 0 0
  refine g_iload_n hX dX5_ringer_5 rfl rfl ?_
  refine g_iconst (v := (nI 0)) hX dX5_ringer_6 (by decide) ?_
  refine g_iconst (v := (nI 3)) hX dX5_ringer_7 (by decide) ?_
  refine g_callS (As := [.int (nI a), .int (nI 0), .int (nI 3)]) hX dX5_ringer_8 cb_X5_isIn ml_X5_59 st_X5_isIn rfl rfl (kX5_isIn hst (gn_okW (by omega) (by omega) (by omega))) (Nat.le_of_ble_eq_true rfl) (Nat.le_of_ble_eq_true rfl) (by omega) (by omega) (Nat.le_of_ble_eq_true rfl) GX.no (pq ?_)
  show GW X 11 [some (.ref 40), some (.int (nI a)), some (.int b), some (.int d)] [.int (nI 1)] (hs h 40 (oB 5 [.int (nI 0), .int (nI rc), .ref 41, .ref 42, .ref 43, .int (nI mc), .ref 44, .ref 45, .int tch, .int frs, .ref 46, .ref 47, .int len, .ref 48, .ref 49, .ref 50, .ref 51, .ref 56])) n 0 0
  refine g_if_ne (tgt := 20) hX dX5_ringer_11 (by decide) (fun _ => ?_) (fun c => absurd c (by decide))
  refine g_iload_n hX dX5_ringer_20 rfl rfl ?_
  refine g_iconst (v := (nI 0)) hX dX5_ringer_21 (by decide) ?_
  refine g_bipush (v := (nI 9)) hX dX5_ringer_22 (by decide) ?_
  refine g_callS (As := [.int b, .int (nI 0), .int (nI 9)]) hX dX5_ringer_24 cb_X5_isIn ml_X5_59 st_X5_isIn rfl rfl (kX5_isIn hst (hy)) (Nat.le_of_ble_eq_true rfl) (Nat.le_of_ble_eq_true rfl) (by omega) (by omega) (Nat.le_of_ble_eq_true rfl) GX.no (pq ?_)
  show GW X 27 [some (.ref 40), some (.int (nI a)), some (.int b), some (.int d)] [.int (nI 1)] (hs h 40 (oB 5 [.int (nI 0), .int (nI rc), .ref 41, .ref 42, .ref 43, .int (nI mc), .ref 44, .ref 45, .int tch, .int frs, .ref 46, .ref 47, .int len, .ref 48, .ref 49, .ref 50, .ref 51, .ref 56])) n 0 0
  refine g_if_eq (tgt := 40) hX dX5_ringer_27 (by decide) (fun c => absurd c (by decide)) (fun _ => ?_)
  refine g_iload_n hX dX5_ringer_30 rfl rfl ?_
  refine g_iconst (v := (nI 0)) hX dX5_ringer_31 (by decide) ?_
  refine g_bipush (v := (nI 99)) hX dX5_ringer_32 (by decide) ?_
  refine g_callS (As := [.int d, .int (nI 0), .int (nI 99)]) hX dX5_ringer_34 cb_X5_isIn ml_X5_59 st_X5_isIn rfl rfl (kX5_isIn_x hst (hz)) (Nat.le_of_ble_eq_true rfl) (Nat.le_of_ble_eq_true rfl) (by omega) (by omega) (Nat.le_of_ble_eq_true rfl) GX.no (pq ?_)
  show GW X 37 [some (.ref 40), some (.int (nI a)), some (.int b), some (.int d)] [.int (nI 0)] (hs h 40 (oB 5 [.int (nI 0), .int (nI rc), .ref 41, .ref 42, .ref 43, .int (nI mc), .ref 44, .ref 45, .int tch, .int frs, .ref 46, .ref 47, .int len, .ref 48, .ref 49, .ref 50, .ref 51, .ref 56])) n 0 0
  refine g_if_ne (tgt := 46) hX dX5_ringer_37 (by decide) (fun c => absurd c (by decide)) (fun _ => ?_)
  refine g_aload_n hX dX5_ringer_40 rfl rfl ?_
  refine g_iconst (v := (nI 2)) hX dX5_ringer_41 (by decide) ?_
  refine g_callV (As := [.int (nI 2)]) hX dX5_ringer_42 cb_X5_no ml_X5_84 im_X5_no se_X5_no rfl rfl (hs_eq _ _ _) ⟨_, rfl, rfl⟩ (kX5_no hst (hs_eq _ _ _) ) (Nat.le_of_ble_eq_true rfl) (Nat.le_of_ble_eq_true rfl) (by omega) (by omega) (Nat.le_of_ble_eq_true rfl) GX.no (pq ?_)
  show GW X 45 [some (.ref 40), some (.int (nI a)), some (.int b), some (.int d)] [.int (nI 0)] (hs (hs h 40 (oB 5 [.int (nI 0), .int (nI rc), .ref 41, .ref 42, .ref 43, .int (nI mc), .ref 44, .ref 45, .int tch, .int frs, .ref 46, .ref 47, .int len, .ref 48, .ref 49, .ref 50, .ref 51, .ref 56])) 40 (oB 5 [.int (nI 2), .int (nI rc), .ref 41, .ref 42, .ref 43, .int (nI mc), .ref 44, .ref 45, .int tch, .int frs, .ref 46, .ref 47, .int len, .ref 48, .ref 49, .ref 50, .ref 51, .ref 56])) n 0 0
  refine g_cg rfl hs_hs ?_
  refine g_ireturn hX hr dX5_ringer_45 (Nat.le_refl _) (Nat.le_refl _)  ?_
  exact ⟨rfl, rfl, fun j hj => (hs_ne (by omega)).trans (rfl), ⟨_, _, _, _, _, _, _, _, _, _, _, (hs_eq _ _ _), ((hs_ne (by omega)).trans (mco)), ((hs_ne (by omega)).trans (mdg)), ((hs_ne (by omega)).trans (mrw)), ((hs_ne (by omega)).trans (mgo)), ((hs_ne (by omega)).trans (mwe)), ((hs_ne (by omega)).trans (a0)), ((hs_ne (by omega)).trans (avt)), ((hs_ne (by omega)).trans (ati)), ((hs_ne (by omega)).trans (afa)), ((hs_ne (by omega)).trans (ast))⟩⟩
set_option maxRecDepth 20000 in
theorem kX5_ringer_f {l : Launch} {K : gw_K} (hst : l.stackTraces = false) {n : Nat} {h : gw_H} {rc mc : Nat} {thr tch frs len dy ady : Int32} {mn : Nat → Nat} {wd sk ws cs co dg rw_ go we vt ti fa st avt ati afa ast : Nat → Int32} {a : Nat} {b d : Int32} (m0 : h 40 = (oB 5 [.int thr, .int (nI rc), .ref 41, .ref 42, .ref 43, .int (nI mc), .ref 44, .ref 45, .int tch, .int frs, .ref 46, .ref 47, .int len, .ref 48, .ref 49, .ref 50, .ref 51, .ref 56])) (mwd : h 41 = (aI 20 wd)) (msk : h 42 = (aI 20 sk)) (mws : h 43 = (aI 18 ws)) (mmn : h 44 = (aI 5 (fun k => nI (mn k)))) (mcs : h 45 = (aI 60 cs)) (mco : h 46 = (aI 201 co)) (mdg : h 47 = (aI 201 dg)) (mrw : h 48 = (aI 6 rw_)) (mgo : h 49 = (aI 6 go)) (mwe : h 50 = (aI 6 we)) (s0 : h 51 = (oB 4 [.int dy, .ref (51 + 1), .ref (51 + 2), .ref (51 + 3), .ref (51 + 4), .ref 40])) (svt : h (51 + 1) = (aI 20 vt)) (sti : h (51 + 2) = (aI 20 ti)) (sfa : h (51 + 3) = (aI 20 fa)) (sst : h (51 + 4) = (aI 20 st)) (a0 : h 56 = (oB 4 [.int ady, .ref (56 + 1), .ref (56 + 2), .ref (56 + 3), .ref (56 + 4), .ref 40])) (avt : h (56 + 1) = (aI 20 avt)) (ati : h (56 + 2) = (aI 20 ati)) (afa : h (56 + 3) = (aI 20 afa)) (ast : h (56 + 4) = (aI 20 ast)) (hn62 : 62 ≤ n) (ha : a < 4) (hy : ¬ (b < nI 0 ∨ nI 9 < b)) (hz : ¬ (d < nI 0 ∨ nI 99 < d)) (hrc : rc = 20) : Ctr l K mX5_ringer [.ref 40, .int (nI a), .int b, .int d] h n 0 0 (PM (some (.int (nI 0))) h n (nI 3) rc mc tch frs) (PX0) := by
  refine Ctr.of hst pn_X5_ringer (Nat.le_of_ble_eq_true rfl) (fun X hX hr hE => ?_)
  have hX : FX l K X cX5_ringer RX5 1 22 0 0 := hX
  show GW X 0 [some (.ref 40), some (.int (nI a)), some (.int b), some (.int d)] [] h n 0 0
  refine g_aload_n hX dX5_ringer_0 rfl rfl ?_
  refine g_iconst (v := (nI 0)) hX dX5_ringer_1 (by decide) ?_
  refine g_putI hX dX5_ringer_2 fl_X5_52 (m0) (Nat.le_of_ble_eq_true rfl) ?_
  show GW X 5 [some (.ref 40), some (.int (nI a)), some (.int b), some (.int d)] [] (hs h 40 (oB 5 [.int (nI 0), .int (nI rc), .ref 41, .ref 42, .ref 43, .int (nI mc), .ref 44, .ref 45, .int tch, .int frs, .ref 46, .ref 47, .int len, .ref 48, .ref 49, .ref 50, .ref 51, .ref 56])) n 0 0
  refine g_iload_n hX dX5_ringer_5 rfl rfl ?_
  refine g_iconst (v := (nI 0)) hX dX5_ringer_6 (by decide) ?_
  refine g_iconst (v := (nI 3)) hX dX5_ringer_7 (by decide) ?_
  refine g_callS (As := [.int (nI a), .int (nI 0), .int (nI 3)]) hX dX5_ringer_8 cb_X5_isIn ml_X5_59 st_X5_isIn rfl rfl (kX5_isIn hst (gn_okW (by omega) (by omega) (by omega))) (Nat.le_of_ble_eq_true rfl) (Nat.le_of_ble_eq_true rfl) (by omega) (by omega) (Nat.le_of_ble_eq_true rfl) GX.no (pq ?_)
  show GW X 11 [some (.ref 40), some (.int (nI a)), some (.int b), some (.int d)] [.int (nI 1)] (hs h 40 (oB 5 [.int (nI 0), .int (nI rc), .ref 41, .ref 42, .ref 43, .int (nI mc), .ref 44, .ref 45, .int tch, .int frs, .ref 46, .ref 47, .int len, .ref 48, .ref 49, .ref 50, .ref 51, .ref 56])) n 0 0
  refine g_if_ne (tgt := 20) hX dX5_ringer_11 (by decide) (fun _ => ?_) (fun c => absurd c (by decide))
  refine g_iload_n hX dX5_ringer_20 rfl rfl ?_
  refine g_iconst (v := (nI 0)) hX dX5_ringer_21 (by decide) ?_
  refine g_bipush (v := (nI 9)) hX dX5_ringer_22 (by decide) ?_
  refine g_callS (As := [.int b, .int (nI 0), .int (nI 9)]) hX dX5_ringer_24 cb_X5_isIn ml_X5_59 st_X5_isIn rfl rfl (kX5_isIn hst (hy)) (Nat.le_of_ble_eq_true rfl) (Nat.le_of_ble_eq_true rfl) (by omega) (by omega) (Nat.le_of_ble_eq_true rfl) GX.no (pq ?_)
  show GW X 27 [some (.ref 40), some (.int (nI a)), some (.int b), some (.int d)] [.int (nI 1)] (hs h 40 (oB 5 [.int (nI 0), .int (nI rc), .ref 41, .ref 42, .ref 43, .int (nI mc), .ref 44, .ref 45, .int tch, .int frs, .ref 46, .ref 47, .int len, .ref 48, .ref 49, .ref 50, .ref 51, .ref 56])) n 0 0
  refine g_if_eq (tgt := 40) hX dX5_ringer_27 (by decide) (fun c => absurd c (by decide)) (fun _ => ?_)
  refine g_iload_n hX dX5_ringer_30 rfl rfl ?_
  refine g_iconst (v := (nI 0)) hX dX5_ringer_31 (by decide) ?_
  refine g_bipush (v := (nI 99)) hX dX5_ringer_32 (by decide) ?_
  refine g_callS (As := [.int d, .int (nI 0), .int (nI 99)]) hX dX5_ringer_34 cb_X5_isIn ml_X5_59 st_X5_isIn rfl rfl (kX5_isIn hst (hz)) (Nat.le_of_ble_eq_true rfl) (Nat.le_of_ble_eq_true rfl) (by omega) (by omega) (Nat.le_of_ble_eq_true rfl) GX.no (pq ?_)
  show GW X 37 [some (.ref 40), some (.int (nI a)), some (.int b), some (.int d)] [.int (nI 1)] (hs h 40 (oB 5 [.int (nI 0), .int (nI rc), .ref 41, .ref 42, .ref 43, .int (nI mc), .ref 44, .ref 45, .int tch, .int frs, .ref 46, .ref 47, .int len, .ref 48, .ref 49, .ref 50, .ref 51, .ref 56])) n 0 0
  refine g_if_ne (tgt := 46) hX dX5_ringer_37 (by decide) (fun _ => ?_) (fun c => absurd c (by decide))
  refine g_aload_n hX dX5_ringer_46 rfl rfl ?_
  refine g_getf hX dX5_ringer_47 fl_X5_56 (hs_eq _ _ _) rfl ?_
  refine g_bipush (v := (nI 20)) hX dX5_ringer_50 (by decide) ?_
  refine g_icmp_neN (tgt := 61) hX dX5_ringer_52 (by decide) (by omega) (fun c1 => absurd c1 (by omega)) (fun c1 => ?_)
  refine g_aload_n hX dX5_ringer_55 rfl rfl ?_
  refine g_iconst (v := (nI 3)) hX dX5_ringer_56 (by decide) ?_
  refine g_callV (As := [.int (nI 3)]) hX dX5_ringer_57 cb_X5_no ml_X5_84 im_X5_no se_X5_no rfl rfl (hs_eq _ _ _) ⟨_, rfl, rfl⟩ (kX5_no hst (hs_eq _ _ _) ) (Nat.le_of_ble_eq_true rfl) (Nat.le_of_ble_eq_true rfl) (by omega) (by omega) (Nat.le_of_ble_eq_true rfl) GX.no (pq ?_)
  show GW X 60 [some (.ref 40), some (.int (nI a)), some (.int b), some (.int d)] [.int (nI 0)] (hs (hs h 40 (oB 5 [.int (nI 0), .int (nI rc), .ref 41, .ref 42, .ref 43, .int (nI mc), .ref 44, .ref 45, .int tch, .int frs, .ref 46, .ref 47, .int len, .ref 48, .ref 49, .ref 50, .ref 51, .ref 56])) 40 (oB 5 [.int (nI 3), .int (nI rc), .ref 41, .ref 42, .ref 43, .int (nI mc), .ref 44, .ref 45, .int tch, .int frs, .ref 46, .ref 47, .int len, .ref 48, .ref 49, .ref 50, .ref 51, .ref 56])) n 0 0
  refine g_cg rfl hs_hs ?_
  refine g_ireturn hX hr dX5_ringer_60 (Nat.le_refl _) (Nat.le_refl _)  ?_
  exact ⟨rfl, rfl, fun j hj => (hs_ne (by omega)).trans (rfl), ⟨_, _, _, _, _, _, _, _, _, _, _, (hs_eq _ _ _), ((hs_ne (by omega)).trans (mco)), ((hs_ne (by omega)).trans (mdg)), ((hs_ne (by omega)).trans (mrw)), ((hs_ne (by omega)).trans (mgo)), ((hs_ne (by omega)).trans (mwe)), ((hs_ne (by omega)).trans (a0)), ((hs_ne (by omega)).trans (avt)), ((hs_ne (by omega)).trans (ati)), ((hs_ne (by omega)).trans (afa)), ((hs_ne (by omega)).trans (ast))⟩⟩
set_option maxRecDepth 20000 in
theorem kX5_ringer {l : Launch} {K : gw_K} (hst : l.stackTraces = false) {n : Nat} {h : gw_H} {rc mc : Nat} {thr tch frs len dy ady : Int32} {mn : Nat → Nat} {wd sk ws cs co dg rw_ go we vt ti fa st avt ati afa ast : Nat → Int32} {a : Nat} {b d : Int32} (m0 : h 40 = (oB 5 [.int thr, .int (nI rc), .ref 41, .ref 42, .ref 43, .int (nI mc), .ref 44, .ref 45, .int tch, .int frs, .ref 46, .ref 47, .int len, .ref 48, .ref 49, .ref 50, .ref 51, .ref 56])) (mwd : h 41 = (aI 20 wd)) (msk : h 42 = (aI 20 sk)) (mws : h 43 = (aI 18 ws)) (mmn : h 44 = (aI 5 (fun k => nI (mn k)))) (mcs : h 45 = (aI 60 cs)) (mco : h 46 = (aI 201 co)) (mdg : h 47 = (aI 201 dg)) (mrw : h 48 = (aI 6 rw_)) (mgo : h 49 = (aI 6 go)) (mwe : h 50 = (aI 6 we)) (s0 : h 51 = (oB 4 [.int dy, .ref (51 + 1), .ref (51 + 2), .ref (51 + 3), .ref (51 + 4), .ref 40])) (svt : h (51 + 1) = (aI 20 vt)) (sti : h (51 + 2) = (aI 20 ti)) (sfa : h (51 + 3) = (aI 20 fa)) (sst : h (51 + 4) = (aI 20 st)) (a0 : h 56 = (oB 4 [.int ady, .ref (56 + 1), .ref (56 + 2), .ref (56 + 3), .ref (56 + 4), .ref 40])) (avt : h (56 + 1) = (aI 20 avt)) (ati : h (56 + 2) = (aI 20 ati)) (afa : h (56 + 3) = (aI 20 afa)) (ast : h (56 + 4) = (aI 20 ast)) (hn62 : 62 ≤ n) (ha : a < 4) (hy : ¬ (b < nI 0 ∨ nI 9 < b)) (hz : ¬ (d < nI 0 ∨ nI 99 < d)) (hrc : rc < 20) : Ctr l K mX5_ringer [.ref 40, .int (nI a), .int b, .int d] h n 0 0 (PM (some (.int (nI rc))) (hs (hs (hs (hs h 41 (aI 20 (upd wd rc (nI a)))) 42 (aI 20 (upd sk rc b))) (51 + 1) (aI 20 (upd vt rc d))) (51 + 4) (aI 20 (upd st rc (-1)))) n (nI 0) (rc + 1) mc tch frs) (PX0) := by
  refine Ctr.of hst pn_X5_ringer (Nat.le_of_ble_eq_true rfl) (fun X hX hr hE => ?_)
  have hX : FX l K X cX5_ringer RX5 1 22 0 0 := hX
  show GW X 0 [some (.ref 40), some (.int (nI a)), some (.int b), some (.int d)] [] h n 0 0
  refine g_aload_n hX dX5_ringer_0 rfl rfl ?_
  refine g_iconst (v := (nI 0)) hX dX5_ringer_1 (by decide) ?_
  refine g_putI hX dX5_ringer_2 fl_X5_52 (m0) (Nat.le_of_ble_eq_true rfl) ?_
  show GW X 5 [some (.ref 40), some (.int (nI a)), some (.int b), some (.int d)] [] (hs h 40 (oB 5 [.int (nI 0), .int (nI rc), .ref 41, .ref 42, .ref 43, .int (nI mc), .ref 44, .ref 45, .int tch, .int frs, .ref 46, .ref 47, .int len, .ref 48, .ref 49, .ref 50, .ref 51, .ref 56])) n 0 0
  refine g_iload_n hX dX5_ringer_5 rfl rfl ?_
  refine g_iconst (v := (nI 0)) hX dX5_ringer_6 (by decide) ?_
  refine g_iconst (v := (nI 3)) hX dX5_ringer_7 (by decide) ?_
  refine g_callS (As := [.int (nI a), .int (nI 0), .int (nI 3)]) hX dX5_ringer_8 cb_X5_isIn ml_X5_59 st_X5_isIn rfl rfl (kX5_isIn hst (gn_okW (by omega) (by omega) (by omega))) (Nat.le_of_ble_eq_true rfl) (Nat.le_of_ble_eq_true rfl) (by omega) (by omega) (Nat.le_of_ble_eq_true rfl) GX.no (pq ?_)
  show GW X 11 [some (.ref 40), some (.int (nI a)), some (.int b), some (.int d)] [.int (nI 1)] (hs h 40 (oB 5 [.int (nI 0), .int (nI rc), .ref 41, .ref 42, .ref 43, .int (nI mc), .ref 44, .ref 45, .int tch, .int frs, .ref 46, .ref 47, .int len, .ref 48, .ref 49, .ref 50, .ref 51, .ref 56])) n 0 0
  refine g_if_ne (tgt := 20) hX dX5_ringer_11 (by decide) (fun _ => ?_) (fun c => absurd c (by decide))
  refine g_iload_n hX dX5_ringer_20 rfl rfl ?_
  refine g_iconst (v := (nI 0)) hX dX5_ringer_21 (by decide) ?_
  refine g_bipush (v := (nI 9)) hX dX5_ringer_22 (by decide) ?_
  refine g_callS (As := [.int b, .int (nI 0), .int (nI 9)]) hX dX5_ringer_24 cb_X5_isIn ml_X5_59 st_X5_isIn rfl rfl (kX5_isIn hst (hy)) (Nat.le_of_ble_eq_true rfl) (Nat.le_of_ble_eq_true rfl) (by omega) (by omega) (Nat.le_of_ble_eq_true rfl) GX.no (pq ?_)
  show GW X 27 [some (.ref 40), some (.int (nI a)), some (.int b), some (.int d)] [.int (nI 1)] (hs h 40 (oB 5 [.int (nI 0), .int (nI rc), .ref 41, .ref 42, .ref 43, .int (nI mc), .ref 44, .ref 45, .int tch, .int frs, .ref 46, .ref 47, .int len, .ref 48, .ref 49, .ref 50, .ref 51, .ref 56])) n 0 0
  refine g_if_eq (tgt := 40) hX dX5_ringer_27 (by decide) (fun c => absurd c (by decide)) (fun _ => ?_)
  refine g_iload_n hX dX5_ringer_30 rfl rfl ?_
  refine g_iconst (v := (nI 0)) hX dX5_ringer_31 (by decide) ?_
  refine g_bipush (v := (nI 99)) hX dX5_ringer_32 (by decide) ?_
  refine g_callS (As := [.int d, .int (nI 0), .int (nI 99)]) hX dX5_ringer_34 cb_X5_isIn ml_X5_59 st_X5_isIn rfl rfl (kX5_isIn hst (hz)) (Nat.le_of_ble_eq_true rfl) (Nat.le_of_ble_eq_true rfl) (by omega) (by omega) (Nat.le_of_ble_eq_true rfl) GX.no (pq ?_)
  show GW X 37 [some (.ref 40), some (.int (nI a)), some (.int b), some (.int d)] [.int (nI 1)] (hs h 40 (oB 5 [.int (nI 0), .int (nI rc), .ref 41, .ref 42, .ref 43, .int (nI mc), .ref 44, .ref 45, .int tch, .int frs, .ref 46, .ref 47, .int len, .ref 48, .ref 49, .ref 50, .ref 51, .ref 56])) n 0 0
  refine g_if_ne (tgt := 46) hX dX5_ringer_37 (by decide) (fun _ => ?_) (fun c => absurd c (by decide))
  refine g_aload_n hX dX5_ringer_46 rfl rfl ?_
  refine g_getf hX dX5_ringer_47 fl_X5_56 (hs_eq _ _ _) rfl ?_
  refine g_bipush (v := (nI 20)) hX dX5_ringer_50 (by decide) ?_
  refine g_icmp_neN (tgt := 61) hX dX5_ringer_52 (by decide) (by omega) (fun c1 => ?_) (fun c1 => absurd c1 (by omega))
  refine g_aload_n hX dX5_ringer_61 rfl rfl ?_
  refine g_getf hX dX5_ringer_62 fl_X5_9 (hs_eq _ _ _) rfl ?_
  refine g_aload_n hX dX5_ringer_65 rfl rfl ?_
  refine g_getf hX dX5_ringer_66 fl_X5_56 (hs_eq _ _ _) rfl ?_
  refine g_iload_n hX dX5_ringer_69 rfl rfl ?_
  refine g_iastore hX dX5_ringer_70 ((hs_ne (by omega)).trans (mwd)) (rc) (by omega) rfl (by omega) ?_
  refine g_aload_n hX dX5_ringer_71 rfl rfl ?_
  refine g_getf hX dX5_ringer_72 fl_X5_13 ((hs_ne (by omega)).trans (hs_eq _ _ _)) rfl ?_
  refine g_aload_n hX dX5_ringer_75 rfl rfl ?_
  refine g_getf hX dX5_ringer_76 fl_X5_56 ((hs_ne (by omega)).trans (hs_eq _ _ _)) rfl ?_
  refine g_iload_n hX dX5_ringer_79 rfl rfl ?_
  refine g_iastore hX dX5_ringer_80 ((hs_ne (by omega)).trans ((hs_ne (by omega)).trans (msk))) (rc) (by omega) rfl (by omega) ?_
  refine g_aload_n hX dX5_ringer_81 rfl rfl ?_
  refine g_getf hX dX5_ringer_82 fl_X5_45 ((hs_ne (by omega)).trans ((hs_ne (by omega)).trans (hs_eq _ _ _))) rfl ?_
  refine g_getf hX dX5_ringer_85 fl_X5_88 ((hs_ne (by omega)).trans ((hs_ne (by omega)).trans ((hs_ne (by omega)).trans (s0)))) rfl ?_
  refine g_aload_n hX dX5_ringer_88 rfl rfl ?_
  refine g_getf hX dX5_ringer_89 fl_X5_56 ((hs_ne (by omega)).trans ((hs_ne (by omega)).trans (hs_eq _ _ _))) rfl ?_
  refine g_iload_n hX dX5_ringer_92 rfl rfl ?_
  refine g_iastore hX dX5_ringer_93 ((hs_ne (by omega)).trans ((hs_ne (by omega)).trans ((hs_ne (by omega)).trans (svt)))) (rc) (by omega) rfl (by omega) ?_
  refine g_aload_n hX dX5_ringer_94 rfl rfl ?_
  refine g_getf hX dX5_ringer_95 fl_X5_45 ((hs_ne (by omega)).trans ((hs_ne (by omega)).trans ((hs_ne (by omega)).trans (hs_eq _ _ _)))) rfl ?_
  refine g_getf hX dX5_ringer_98 fl_X5_91 ((hs_ne (by omega)).trans ((hs_ne (by omega)).trans ((hs_ne (by omega)).trans ((hs_ne (by omega)).trans (s0))))) rfl ?_
  refine g_aload_n hX dX5_ringer_101 rfl rfl ?_
  refine g_getf hX dX5_ringer_102 fl_X5_56 ((hs_ne (by omega)).trans ((hs_ne (by omega)).trans ((hs_ne (by omega)).trans (hs_eq _ _ _)))) rfl ?_
  refine g_iconst (v := (-1)) hX dX5_ringer_105 (by decide) ?_
  refine g_iastore hX dX5_ringer_106 ((hs_ne (by omega)).trans ((hs_ne (by omega)).trans ((hs_ne (by omega)).trans ((hs_ne (by omega)).trans (sst))))) (rc) (by omega) rfl (by omega) ?_
  refine g_aload_n hX dX5_ringer_107 rfl rfl ?_
  refine g_dup hX dX5_ringer_108 rfl ?_
  refine g_getf hX dX5_ringer_109 fl_X5_56 ((hs_ne (by omega)).trans ((hs_ne (by omega)).trans ((hs_ne (by omega)).trans ((hs_ne (by omega)).trans (hs_eq _ _ _))))) rfl ?_
  refine g_iconst (v := (nI 1)) hX dX5_ringer_112 (by decide) ?_
  refine g_iaddN hX dX5_ringer_113 ?_
  refine g_putI hX dX5_ringer_114 fl_X5_56 ((hs_ne (by omega)).trans ((hs_ne (by omega)).trans ((hs_ne (by omega)).trans ((hs_ne (by omega)).trans (hs_eq _ _ _))))) (Nat.le_of_ble_eq_true rfl) ?_
  show GW X 117 [some (.ref 40), some (.int (nI a)), some (.int b), some (.int d)] [] (hs (hs (hs (hs (hs (hs h 40 (oB 5 [.int (nI 0), .int (nI rc), .ref 41, .ref 42, .ref 43, .int (nI mc), .ref 44, .ref 45, .int tch, .int frs, .ref 46, .ref 47, .int len, .ref 48, .ref 49, .ref 50, .ref 51, .ref 56])) 41 (aI 20 (upd wd rc (nI a)))) 42 (aI 20 (upd sk rc b))) (51 + 1) (aI 20 (upd vt rc d))) (51 + 4) (aI 20 (upd st rc (-1)))) 40 (oB 5 [.int (nI 0), .int (nI (rc + 1)), .ref 41, .ref 42, .ref 43, .int (nI mc), .ref 44, .ref 45, .int tch, .int frs, .ref 46, .ref 47, .int len, .ref 48, .ref 49, .ref 50, .ref 51, .ref 56])) n 0 0
  refine g_aload_n hX dX5_ringer_117 rfl rfl ?_
  refine g_getf hX dX5_ringer_118 fl_X5_56 (hs_eq _ _ _) rfl ?_
  refine g_iconst (v := (nI 1)) hX dX5_ringer_121 (by decide) ?_
  refine g_isubN hX dX5_ringer_122 (by omega) ?_
  refine g_ireturn hX hr dX5_ringer_123 (Nat.le_refl _) (Nat.le_refl _)  ?_
  exact ⟨rfl, rfl, fun j hj => (hs_ne (by omega)).trans (hs_cgj (hs_cgj (hs_cgj (hs_cgj ((hs_ne (by omega)).trans (rfl)))))), ⟨_, _, _, _, _, _, _, _, _, _, _, (hs_eq _ _ _), ((hs_ne (by omega)).trans ((hs_ne (by omega)).trans ((hs_ne (by omega)).trans ((hs_ne (by omega)).trans ((hs_ne (by omega)).trans ((hs_ne (by omega)).trans (mco))))))), ((hs_ne (by omega)).trans ((hs_ne (by omega)).trans ((hs_ne (by omega)).trans ((hs_ne (by omega)).trans ((hs_ne (by omega)).trans ((hs_ne (by omega)).trans (mdg))))))), ((hs_ne (by omega)).trans ((hs_ne (by omega)).trans ((hs_ne (by omega)).trans ((hs_ne (by omega)).trans ((hs_ne (by omega)).trans ((hs_ne (by omega)).trans (mrw))))))), ((hs_ne (by omega)).trans ((hs_ne (by omega)).trans ((hs_ne (by omega)).trans ((hs_ne (by omega)).trans ((hs_ne (by omega)).trans ((hs_ne (by omega)).trans (mgo))))))), ((hs_ne (by omega)).trans ((hs_ne (by omega)).trans ((hs_ne (by omega)).trans ((hs_ne (by omega)).trans ((hs_ne (by omega)).trans ((hs_ne (by omega)).trans (mwe))))))), ((hs_ne (by omega)).trans ((hs_ne (by omega)).trans ((hs_ne (by omega)).trans ((hs_ne (by omega)).trans ((hs_ne (by omega)).trans ((hs_ne (by omega)).trans (a0))))))), ((hs_ne (by omega)).trans ((hs_ne (by omega)).trans ((hs_ne (by omega)).trans ((hs_ne (by omega)).trans ((hs_ne (by omega)).trans ((hs_ne (by omega)).trans (avt))))))), ((hs_ne (by omega)).trans ((hs_ne (by omega)).trans ((hs_ne (by omega)).trans ((hs_ne (by omega)).trans ((hs_ne (by omega)).trans ((hs_ne (by omega)).trans (ati))))))), ((hs_ne (by omega)).trans ((hs_ne (by omega)).trans ((hs_ne (by omega)).trans ((hs_ne (by omega)).trans ((hs_ne (by omega)).trans ((hs_ne (by omega)).trans (afa))))))), ((hs_ne (by omega)).trans ((hs_ne (by omega)).trans ((hs_ne (by omega)).trans ((hs_ne (by omega)).trans ((hs_ne (by omega)).trans ((hs_ne (by omega)).trans (ast)))))))⟩⟩
set_option maxRecDepth 20000 in
theorem kX5_vote_r {l : Launch} {K : gw_K} (hst : l.stackTraces = false) {n : Nat} {h : gw_H} {rc mc : Nat} {thr tch frs len dy ady : Int32} {mn : Nat → Nat} {wd sk ws cs co dg rw_ go we vt ti fa st avt ati afa ast : Nat → Int32} {a b : Int32} (m0 : h 40 = (oB 5 [.int thr, .int (nI rc), .ref 41, .ref 42, .ref 43, .int (nI mc), .ref 44, .ref 45, .int tch, .int frs, .ref 46, .ref 47, .int len, .ref 48, .ref 49, .ref 50, .ref 51, .ref 56])) (mwd : h 41 = (aI 20 wd)) (msk : h 42 = (aI 20 sk)) (mws : h 43 = (aI 18 ws)) (mmn : h 44 = (aI 5 (fun k => nI (mn k)))) (mcs : h 45 = (aI 60 cs)) (mco : h 46 = (aI 201 co)) (mdg : h 47 = (aI 201 dg)) (mrw : h 48 = (aI 6 rw_)) (mgo : h 49 = (aI 6 go)) (mwe : h 50 = (aI 6 we)) (s0 : h 51 = (oB 4 [.int dy, .ref (51 + 1), .ref (51 + 2), .ref (51 + 3), .ref (51 + 4), .ref 40])) (svt : h (51 + 1) = (aI 20 vt)) (sti : h (51 + 2) = (aI 20 ti)) (sfa : h (51 + 3) = (aI 20 fa)) (sst : h (51 + 4) = (aI 20 st)) (a0 : h 56 = (oB 4 [.int ady, .ref (56 + 1), .ref (56 + 2), .ref (56 + 3), .ref (56 + 4), .ref 40])) (avt : h (56 + 1) = (aI 20 avt)) (ati : h (56 + 2) = (aI 20 ati)) (afa : h (56 + 3) = (aI 20 afa)) (ast : h (56 + 4) = (aI 20 ast)) (hn62 : 62 ≤ n) (hrc : rc ≤ 20) (hz : a < 0 ∨ nI rc ≤ a) : Ctr l K mX5_vote [.ref 40, .int a, .int b] h n 0 0 (PM (some (.int (nI 0))) h n (nI 1) rc mc tch frs) (PX0) := by
  refine Ctr.of hst pn_X5_vote (Nat.le_of_ble_eq_true rfl) (fun X hX hr hE => ?_)
  have hX : FX l K X cX5_vote RX5 2 43 0 0 := hX
  show GW X 0 [some (.ref 40), some (.int a), some (.int b)] [] h n 0 0
  refine g_aload_n hX dX5_vote_0 rfl rfl ?_
  refine g_iconst (v := (nI 0)) hX dX5_vote_1 (by decide) ?_
  refine g_putI hX dX5_vote_2 fl_X5_52 (m0) (Nat.le_of_ble_eq_true rfl) ?_
  show GW X 5 [some (.ref 40), some (.int a), some (.int b)] [] (hs h 40 (oB 5 [.int (nI 0), .int (nI rc), .ref 41, .ref 42, .ref 43, .int (nI mc), .ref 44, .ref 45, .int tch, .int frs, .ref 46, .ref 47, .int len, .ref 48, .ref 49, .ref 50, .ref 51, .ref 56])) n 0 0
  refine g_aload_n hX dX5_vote_5 rfl rfl ?_
  refine g_iload_n hX dX5_vote_6 rfl rfl ?_
  refine g_callV (As := [.int a]) hX dX5_vote_7 cb_X5_isRinger ml_X5_94 im_X5_isRinger se_X5_isRinger rfl rfl (hs_eq _ _ _) ⟨_, rfl, rfl⟩ (kX5_isRinger_x hst (hs_eq _ _ _) (hz) (by omega)) (Nat.le_of_ble_eq_true rfl) (Nat.le_of_ble_eq_true rfl) (by omega) (by omega) (Nat.le_of_ble_eq_true rfl) GX.no (pq ?_)
  show GW X 10 [some (.ref 40), some (.int a), some (.int b)] [.int (nI 0)] (hs h 40 (oB 5 [.int (nI 0), .int (nI rc), .ref 41, .ref 42, .ref 43, .int (nI mc), .ref 44, .ref 45, .int tch, .int frs, .ref 46, .ref 47, .int len, .ref 48, .ref 49, .ref 50, .ref 51, .ref 56])) n 0 0
  refine g_if_ne (tgt := 19) hX dX5_vote_10 (by decide) (fun c => absurd c (by decide)) (fun _ => ?_)
  refine g_aload_n hX dX5_vote_13 rfl rfl ?_
  refine g_iconst (v := (nI 1)) hX dX5_vote_14 (by decide) ?_
  refine g_callV (As := [.int (nI 1)]) hX dX5_vote_15 cb_X5_no ml_X5_84 im_X5_no se_X5_no rfl rfl (hs_eq _ _ _) ⟨_, rfl, rfl⟩ (kX5_no hst (hs_eq _ _ _) ) (Nat.le_of_ble_eq_true rfl) (Nat.le_of_ble_eq_true rfl) (by omega) (by omega) (Nat.le_of_ble_eq_true rfl) GX.no (pq ?_)
  show GW X 18 [some (.ref 40), some (.int a), some (.int b)] [.int (nI 0)] (hs (hs h 40 (oB 5 [.int (nI 0), .int (nI rc), .ref 41, .ref 42, .ref 43, .int (nI mc), .ref 44, .ref 45, .int tch, .int frs, .ref 46, .ref 47, .int len, .ref 48, .ref 49, .ref 50, .ref 51, .ref 56])) 40 (oB 5 [.int (nI 1), .int (nI rc), .ref 41, .ref 42, .ref 43, .int (nI mc), .ref 44, .ref 45, .int tch, .int frs, .ref 46, .ref 47, .int len, .ref 48, .ref 49, .ref 50, .ref 51, .ref 56])) n 0 0
  refine g_cg rfl hs_hs ?_
  refine g_ireturn hX hr dX5_vote_18 (Nat.le_refl _) (Nat.le_refl _)  ?_
  exact ⟨rfl, rfl, fun j hj => (hs_ne (by omega)).trans (rfl), ⟨_, _, _, _, _, _, _, _, _, _, _, (hs_eq _ _ _), ((hs_ne (by omega)).trans (mco)), ((hs_ne (by omega)).trans (mdg)), ((hs_ne (by omega)).trans (mrw)), ((hs_ne (by omega)).trans (mgo)), ((hs_ne (by omega)).trans (mwe)), ((hs_ne (by omega)).trans (a0)), ((hs_ne (by omega)).trans (avt)), ((hs_ne (by omega)).trans (ati)), ((hs_ne (by omega)).trans (afa)), ((hs_ne (by omega)).trans (ast))⟩⟩
set_option maxRecDepth 20000 in
theorem kX5_vote_m {l : Launch} {K : gw_K} (hst : l.stackTraces = false) {n : Nat} {h : gw_H} {rc mc : Nat} {thr tch frs len dy ady : Int32} {mn : Nat → Nat} {wd sk ws cs co dg rw_ go we vt ti fa st avt ati afa ast : Nat → Int32} {a : Nat} {b : Int32} (m0 : h 40 = (oB 5 [.int thr, .int (nI rc), .ref 41, .ref 42, .ref 43, .int (nI mc), .ref 44, .ref 45, .int tch, .int frs, .ref 46, .ref 47, .int len, .ref 48, .ref 49, .ref 50, .ref 51, .ref 56])) (mwd : h 41 = (aI 20 wd)) (msk : h 42 = (aI 20 sk)) (mws : h 43 = (aI 18 ws)) (mmn : h 44 = (aI 5 (fun k => nI (mn k)))) (mcs : h 45 = (aI 60 cs)) (mco : h 46 = (aI 201 co)) (mdg : h 47 = (aI 201 dg)) (mrw : h 48 = (aI 6 rw_)) (mgo : h 49 = (aI 6 go)) (mwe : h 50 = (aI 6 we)) (s0 : h 51 = (oB 4 [.int dy, .ref (51 + 1), .ref (51 + 2), .ref (51 + 3), .ref (51 + 4), .ref 40])) (svt : h (51 + 1) = (aI 20 vt)) (sti : h (51 + 2) = (aI 20 ti)) (sfa : h (51 + 3) = (aI 20 fa)) (sst : h (51 + 4) = (aI 20 st)) (a0 : h 56 = (oB 4 [.int ady, .ref (56 + 1), .ref (56 + 2), .ref (56 + 3), .ref (56 + 4), .ref 40])) (avt : h (56 + 1) = (aI 20 avt)) (ati : h (56 + 2) = (aI 20 ati)) (afa : h (56 + 3) = (aI 20 afa)) (ast : h (56 + 4) = (aI 20 ast)) (hn62 : 62 ≤ n) (hrc : rc ≤ 20) (ha : a < rc) (hz : b < -99 ∨ nI 99 < b) : Ctr l K mX5_vote [.ref 40, .int (nI a), .int b] h n 0 0 (PM (some (.int (nI 0))) h n (nI 2) rc mc tch frs) (PX0) := by
  refine Ctr.of hst pn_X5_vote (Nat.le_of_ble_eq_true rfl) (fun X hX hr hE => ?_)
  have hX : FX l K X cX5_vote RX5 2 43 0 0 := hX
  show GW X 0 [some (.ref 40), some (.int (nI a)), some (.int b)] [] h n 0 0
  refine g_aload_n hX dX5_vote_0 rfl rfl ?_
  refine g_iconst (v := (nI 0)) hX dX5_vote_1 (by decide) ?_
  refine g_putI hX dX5_vote_2 fl_X5_52 (m0) (Nat.le_of_ble_eq_true rfl) ?_
  show GW X 5 [some (.ref 40), some (.int (nI a)), some (.int b)] [] (hs h 40 (oB 5 [.int (nI 0), .int (nI rc), .ref 41, .ref 42, .ref 43, .int (nI mc), .ref 44, .ref 45, .int tch, .int frs, .ref 46, .ref 47, .int len, .ref 48, .ref 49, .ref 50, .ref 51, .ref 56])) n 0 0
  refine g_aload_n hX dX5_vote_5 rfl rfl ?_
  refine g_iload_n hX dX5_vote_6 rfl rfl ?_
  refine g_callV (As := [.int (nI a)]) hX dX5_vote_7 cb_X5_isRinger ml_X5_94 im_X5_isRinger se_X5_isRinger rfl rfl (hs_eq _ _ _) ⟨_, rfl, rfl⟩ (kX5_isRinger hst (hs_eq _ _ _) (ha) (by omega)) (Nat.le_of_ble_eq_true rfl) (Nat.le_of_ble_eq_true rfl) (by omega) (by omega) (Nat.le_of_ble_eq_true rfl) GX.no (pq ?_)
  show GW X 10 [some (.ref 40), some (.int (nI a)), some (.int b)] [.int (nI 1)] (hs h 40 (oB 5 [.int (nI 0), .int (nI rc), .ref 41, .ref 42, .ref 43, .int (nI mc), .ref 44, .ref 45, .int tch, .int frs, .ref 46, .ref 47, .int len, .ref 48, .ref 49, .ref 50, .ref 51, .ref 56])) n 0 0
  refine g_if_ne (tgt := 19) hX dX5_vote_10 (by decide) (fun _ => ?_) (fun c => absurd c (by decide))
  refine g_iload_n hX dX5_vote_19 rfl rfl ?_
  refine g_bipush (v := (-99)) hX dX5_vote_20 (by decide) ?_
  refine g_bipush (v := (nI 99)) hX dX5_vote_22 (by decide) ?_
  refine g_callS (As := [.int b, .int (-99), .int (nI 99)]) hX dX5_vote_24 cb_X5_isIn ml_X5_59 st_X5_isIn rfl rfl (kX5_isIn_x hst (hz)) (Nat.le_of_ble_eq_true rfl) (Nat.le_of_ble_eq_true rfl) (by omega) (by omega) (Nat.le_of_ble_eq_true rfl) GX.no (pq ?_)
  show GW X 27 [some (.ref 40), some (.int (nI a)), some (.int b)] [.int (nI 0)] (hs h 40 (oB 5 [.int (nI 0), .int (nI rc), .ref 41, .ref 42, .ref 43, .int (nI mc), .ref 44, .ref 45, .int tch, .int frs, .ref 46, .ref 47, .int len, .ref 48, .ref 49, .ref 50, .ref 51, .ref 56])) n 0 0
  refine g_if_ne (tgt := 36) hX dX5_vote_27 (by decide) (fun c => absurd c (by decide)) (fun _ => ?_)
  refine g_aload_n hX dX5_vote_30 rfl rfl ?_
  refine g_iconst (v := (nI 2)) hX dX5_vote_31 (by decide) ?_
  refine g_callV (As := [.int (nI 2)]) hX dX5_vote_32 cb_X5_no ml_X5_84 im_X5_no se_X5_no rfl rfl (hs_eq _ _ _) ⟨_, rfl, rfl⟩ (kX5_no hst (hs_eq _ _ _) ) (Nat.le_of_ble_eq_true rfl) (Nat.le_of_ble_eq_true rfl) (by omega) (by omega) (Nat.le_of_ble_eq_true rfl) GX.no (pq ?_)
  show GW X 35 [some (.ref 40), some (.int (nI a)), some (.int b)] [.int (nI 0)] (hs (hs h 40 (oB 5 [.int (nI 0), .int (nI rc), .ref 41, .ref 42, .ref 43, .int (nI mc), .ref 44, .ref 45, .int tch, .int frs, .ref 46, .ref 47, .int len, .ref 48, .ref 49, .ref 50, .ref 51, .ref 56])) 40 (oB 5 [.int (nI 2), .int (nI rc), .ref 41, .ref 42, .ref 43, .int (nI mc), .ref 44, .ref 45, .int tch, .int frs, .ref 46, .ref 47, .int len, .ref 48, .ref 49, .ref 50, .ref 51, .ref 56])) n 0 0
  refine g_cg rfl hs_hs ?_
  refine g_ireturn hX hr dX5_vote_35 (Nat.le_refl _) (Nat.le_refl _)  ?_
  exact ⟨rfl, rfl, fun j hj => (hs_ne (by omega)).trans (rfl), ⟨_, _, _, _, _, _, _, _, _, _, _, (hs_eq _ _ _), ((hs_ne (by omega)).trans (mco)), ((hs_ne (by omega)).trans (mdg)), ((hs_ne (by omega)).trans (mrw)), ((hs_ne (by omega)).trans (mgo)), ((hs_ne (by omega)).trans (mwe)), ((hs_ne (by omega)).trans (a0)), ((hs_ne (by omega)).trans (avt)), ((hs_ne (by omega)).trans (ati)), ((hs_ne (by omega)).trans (afa)), ((hs_ne (by omega)).trans (ast))⟩⟩
set_option maxRecDepth 20000 in
theorem kX5_vote {l : Launch} {K : gw_K} (hst : l.stackTraces = false) {n : Nat} {h : gw_H} {rc mc : Nat} {thr tch frs len dy ady : Int32} {mn : Nat → Nat} {wd sk ws cs co dg rw_ go we vt ti fa st avt ati afa ast : Nat → Int32} {a : Nat} {b : Int32} (m0 : h 40 = (oB 5 [.int thr, .int (nI rc), .ref 41, .ref 42, .ref 43, .int (nI mc), .ref 44, .ref 45, .int tch, .int frs, .ref 46, .ref 47, .int len, .ref 48, .ref 49, .ref 50, .ref 51, .ref 56])) (mwd : h 41 = (aI 20 wd)) (msk : h 42 = (aI 20 sk)) (mws : h 43 = (aI 18 ws)) (mmn : h 44 = (aI 5 (fun k => nI (mn k)))) (mcs : h 45 = (aI 60 cs)) (mco : h 46 = (aI 201 co)) (mdg : h 47 = (aI 201 dg)) (mrw : h 48 = (aI 6 rw_)) (mgo : h 49 = (aI 6 go)) (mwe : h 50 = (aI 6 we)) (s0 : h 51 = (oB 4 [.int dy, .ref (51 + 1), .ref (51 + 2), .ref (51 + 3), .ref (51 + 4), .ref 40])) (svt : h (51 + 1) = (aI 20 vt)) (sti : h (51 + 2) = (aI 20 ti)) (sfa : h (51 + 3) = (aI 20 fa)) (sst : h (51 + 4) = (aI 20 st)) (a0 : h 56 = (oB 4 [.int ady, .ref (56 + 1), .ref (56 + 2), .ref (56 + 3), .ref (56 + 4), .ref 40])) (avt : h (56 + 1) = (aI 20 avt)) (ati : h (56 + 2) = (aI 20 ati)) (afa : h (56 + 3) = (aI 20 afa)) (ast : h (56 + 4) = (aI 20 ast)) (hn62 : 62 ≤ n) (hrc : rc ≤ 20) (ha : a < rc) (hz : ¬ (b < -99 ∨ nI 99 < b)) : Ctr l K mX5_vote [.ref 40, .int (nI a), .int b] h n 0 0 (PM (some (.int (clampI (vt a + b)))) (hs h (51 + 1) (aI 20 (upd vt a (clampI (vt a + b))))) n (nI 0) rc mc tch frs) (PX0) := by
  refine Ctr.of hst pn_X5_vote (Nat.le_of_ble_eq_true rfl) (fun X hX hr hE => ?_)
  have hX : FX l K X cX5_vote RX5 2 43 0 0 := hX
  show GW X 0 [some (.ref 40), some (.int (nI a)), some (.int b)] [] h n 0 0
  refine g_aload_n hX dX5_vote_0 rfl rfl ?_
  refine g_iconst (v := (nI 0)) hX dX5_vote_1 (by decide) ?_
  refine g_putI hX dX5_vote_2 fl_X5_52 (m0) (Nat.le_of_ble_eq_true rfl) ?_
  show GW X 5 [some (.ref 40), some (.int (nI a)), some (.int b)] [] (hs h 40 (oB 5 [.int (nI 0), .int (nI rc), .ref 41, .ref 42, .ref 43, .int (nI mc), .ref 44, .ref 45, .int tch, .int frs, .ref 46, .ref 47, .int len, .ref 48, .ref 49, .ref 50, .ref 51, .ref 56])) n 0 0
  refine g_aload_n hX dX5_vote_5 rfl rfl ?_
  refine g_iload_n hX dX5_vote_6 rfl rfl ?_
  refine g_callV (As := [.int (nI a)]) hX dX5_vote_7 cb_X5_isRinger ml_X5_94 im_X5_isRinger se_X5_isRinger rfl rfl (hs_eq _ _ _) ⟨_, rfl, rfl⟩ (kX5_isRinger hst (hs_eq _ _ _) (ha) (by omega)) (Nat.le_of_ble_eq_true rfl) (Nat.le_of_ble_eq_true rfl) (by omega) (by omega) (Nat.le_of_ble_eq_true rfl) GX.no (pq ?_)
  show GW X 10 [some (.ref 40), some (.int (nI a)), some (.int b)] [.int (nI 1)] (hs h 40 (oB 5 [.int (nI 0), .int (nI rc), .ref 41, .ref 42, .ref 43, .int (nI mc), .ref 44, .ref 45, .int tch, .int frs, .ref 46, .ref 47, .int len, .ref 48, .ref 49, .ref 50, .ref 51, .ref 56])) n 0 0
  refine g_if_ne (tgt := 19) hX dX5_vote_10 (by decide) (fun _ => ?_) (fun c => absurd c (by decide))
  refine g_iload_n hX dX5_vote_19 rfl rfl ?_
  refine g_bipush (v := (-99)) hX dX5_vote_20 (by decide) ?_
  refine g_bipush (v := (nI 99)) hX dX5_vote_22 (by decide) ?_
  refine g_callS (As := [.int b, .int (-99), .int (nI 99)]) hX dX5_vote_24 cb_X5_isIn ml_X5_59 st_X5_isIn rfl rfl (kX5_isIn hst (hz)) (Nat.le_of_ble_eq_true rfl) (Nat.le_of_ble_eq_true rfl) (by omega) (by omega) (Nat.le_of_ble_eq_true rfl) GX.no (pq ?_)
  show GW X 27 [some (.ref 40), some (.int (nI a)), some (.int b)] [.int (nI 1)] (hs h 40 (oB 5 [.int (nI 0), .int (nI rc), .ref 41, .ref 42, .ref 43, .int (nI mc), .ref 44, .ref 45, .int tch, .int frs, .ref 46, .ref 47, .int len, .ref 48, .ref 49, .ref 50, .ref 51, .ref 56])) n 0 0
  refine g_if_ne (tgt := 36) hX dX5_vote_27 (by decide) (fun _ => ?_) (fun c => absurd c (by decide))
  refine g_aload_n hX dX5_vote_36 rfl rfl ?_
  refine g_getf hX dX5_vote_37 fl_X5_45 (hs_eq _ _ _) rfl ?_
  refine g_getf hX dX5_vote_40 fl_X5_88 ((hs_ne (by omega)).trans (s0)) rfl ?_
  refine g_iload_n hX dX5_vote_43 rfl rfl ?_
  refine g_iconst (v := (nI 0)) hX dX5_vote_44 (by decide) ?_
  refine g_bipush (v := (nI 99)) hX dX5_vote_45 (by decide) ?_
  refine g_aload_n hX dX5_vote_47 rfl rfl ?_
  refine g_getf hX dX5_vote_48 fl_X5_45 (hs_eq _ _ _) rfl ?_
  refine g_getf hX dX5_vote_51 fl_X5_88 ((hs_ne (by omega)).trans (s0)) rfl ?_
  refine g_iload_n hX dX5_vote_54 rfl rfl ?_
  refine g_iaload hX dX5_vote_55 ((hs_ne (by omega)).trans (svt)) (a) (by omega) rfl (by omega) ?_
  refine g_iload_n hX dX5_vote_56 rfl rfl ?_
  refine g_iadd hX dX5_vote_57 ?_
  refine g_mmin hX dX5_vote_58 ml_X5_97 w_mminS w_mI w_mminC (Nat.le_of_ble_eq_true rfl) (Nat.le_of_ble_eq_true rfl) (by omega) (by omega) ?_
  refine g_mmax hX dX5_vote_61 ml_X5_103 w_mmaxS w_mI w_mmaxC (Nat.le_of_ble_eq_true rfl) (Nat.le_of_ble_eq_true rfl) (by omega) (by omega) ?_
  refine g_iastore hX dX5_vote_64 ((hs_ne (by omega)).trans (svt)) (a) (by omega) rfl (by omega) ?_
  refine g_aload_n hX dX5_vote_65 rfl rfl ?_
  refine g_getf hX dX5_vote_66 fl_X5_45 ((hs_ne (by omega)).trans (hs_eq _ _ _)) rfl ?_
  refine g_getf hX dX5_vote_69 fl_X5_88 ((hs_ne (by omega)).trans ((hs_ne (by omega)).trans (s0))) rfl ?_
  refine g_iload_n hX dX5_vote_72 rfl rfl ?_
  refine g_iaload hX dX5_vote_73 (hs_eq _ _ _) (a) (by omega) rfl (by omega) ?_
  refine g_top (v' := .int (if (nI 0) < (if ((vt a) + b) < (nI 99) then ((vt a) + b) else (nI 99)) then (if ((vt a) + b) < (nI 99) then ((vt a) + b) else (nI 99)) else (nI 0))) (congrArg Value.int pk_us) ?_
  refine g_ireturn hX hr dX5_vote_74 (Nat.le_refl _) (Nat.le_refl _)  ?_
  exact ⟨rfl, rfl, fun j hj => hs_cgj ((hs_ne (by omega)).trans (rfl)), ⟨_, _, _, _, _, _, _, _, _, _, _, ((hs_ne (by omega)).trans (hs_eq _ _ _)), ((hs_ne (by omega)).trans ((hs_ne (by omega)).trans (mco))), ((hs_ne (by omega)).trans ((hs_ne (by omega)).trans (mdg))), ((hs_ne (by omega)).trans ((hs_ne (by omega)).trans (mrw))), ((hs_ne (by omega)).trans ((hs_ne (by omega)).trans (mgo))), ((hs_ne (by omega)).trans ((hs_ne (by omega)).trans (mwe))), ((hs_ne (by omega)).trans ((hs_ne (by omega)).trans (a0))), ((hs_ne (by omega)).trans ((hs_ne (by omega)).trans (avt))), ((hs_ne (by omega)).trans ((hs_ne (by omega)).trans (ati))), ((hs_ne (by omega)).trans ((hs_ne (by omega)).trans (afa))), ((hs_ne (by omega)).trans ((hs_ne (by omega)).trans (ast)))⟩⟩
set_option maxRecDepth 20000 in
theorem kX5_seat_s {l : Launch} {K : gw_K} (hst : l.stackTraces = false) {n : Nat} {h : gw_H} {rc mc : Nat} {thr tch frs len dy ady : Int32} {mn : Nat → Nat} {wd sk ws cs co dg rw_ go we vt ti fa st avt ati afa ast : Nat → Int32} {a b d : Int32} (m0 : h 40 = (oB 5 [.int thr, .int (nI rc), .ref 41, .ref 42, .ref 43, .int (nI mc), .ref 44, .ref 45, .int tch, .int frs, .ref 46, .ref 47, .int len, .ref 48, .ref 49, .ref 50, .ref 51, .ref 56])) (mwd : h 41 = (aI 20 wd)) (msk : h 42 = (aI 20 sk)) (mws : h 43 = (aI 18 ws)) (mmn : h 44 = (aI 5 (fun k => nI (mn k)))) (mcs : h 45 = (aI 60 cs)) (mco : h 46 = (aI 201 co)) (mdg : h 47 = (aI 201 dg)) (mrw : h 48 = (aI 6 rw_)) (mgo : h 49 = (aI 6 go)) (mwe : h 50 = (aI 6 we)) (s0 : h 51 = (oB 4 [.int dy, .ref (51 + 1), .ref (51 + 2), .ref (51 + 3), .ref (51 + 4), .ref 40])) (svt : h (51 + 1) = (aI 20 vt)) (sti : h (51 + 2) = (aI 20 ti)) (sfa : h (51 + 3) = (aI 20 fa)) (sst : h (51 + 4) = (aI 20 st)) (a0 : h 56 = (oB 4 [.int ady, .ref (56 + 1), .ref (56 + 2), .ref (56 + 3), .ref (56 + 4), .ref 40])) (avt : h (56 + 1) = (aI 20 avt)) (ati : h (56 + 2) = (aI 20 ati)) (afa : h (56 + 3) = (aI 20 afa)) (ast : h (56 + 4) = (aI 20 ast)) (hn62 : 62 ≤ n) (hz : (a < 0 ∨ nI 3 ≤ a) ∨ (b < 0 ∨ nI 6 ≤ b)) : Ctr l K mX5_seat [.ref 40, .int a, .int b, .int d] h n 0 0 (PM (some (.int (nI 0))) h n (nI 1) rc mc tch frs) (PX0) := by
  refine Ctr.of hst pn_X5_seat (Nat.le_of_ble_eq_true rfl) (fun X hX hr hE => ?_)
  have hX : FX l K X cX5_seat RX5 2 43 0 0 := hX
  show GW X 0 [some (.ref 40), some (.int a), some (.int b), some (.int d), none] [] h n 0 0
  refine g_aload_n hX dX5_seat_0 rfl rfl ?_
  refine g_iconst (v := (nI 0)) hX dX5_seat_1 (by decide) ?_
  refine g_putI hX dX5_seat_2 fl_X5_52 (m0) (Nat.le_of_ble_eq_true rfl) ?_
  show GW X 5 [some (.ref 40), some (.int a), some (.int b), some (.int d), none] [] (hs h 40 (oB 5 [.int (nI 0), .int (nI rc), .ref 41, .ref 42, .ref 43, .int (nI mc), .ref 44, .ref 45, .int tch, .int frs, .ref 46, .ref 47, .int len, .ref 48, .ref 49, .ref 50, .ref 51, .ref 56])) n 0 0
  refine g_iload_n hX dX5_seat_5 rfl rfl ?_
  refine g_iload_n hX dX5_seat_6 rfl rfl ?_
  refine g_callS (As := [.int a, .int b]) hX dX5_seat_7 cb_X5_isSeat ml_X5_106 st_X5_isSeat rfl rfl (kX5_isSeat_x hst hz) (Nat.le_of_ble_eq_true rfl) (Nat.le_of_ble_eq_true rfl) (by omega) (by omega) (Nat.le_of_ble_eq_true rfl) GX.no (pq ?_)
  show GW X 10 [some (.ref 40), some (.int a), some (.int b), some (.int d), none] [.int (nI 0)] (hs h 40 (oB 5 [.int (nI 0), .int (nI rc), .ref 41, .ref 42, .ref 43, .int (nI mc), .ref 44, .ref 45, .int tch, .int frs, .ref 46, .ref 47, .int len, .ref 48, .ref 49, .ref 50, .ref 51, .ref 56])) n 0 0
  refine g_if_eq (tgt := 22) hX dX5_seat_10 (by decide) (fun _ => ?_) (fun c => absurd (by decide) c)
  refine g_aload_n hX dX5_seat_22 rfl rfl ?_
  refine g_iconst (v := (nI 1)) hX dX5_seat_23 (by decide) ?_
  refine g_callV (As := [.int (nI 1)]) hX dX5_seat_24 cb_X5_no ml_X5_84 im_X5_no se_X5_no rfl rfl (hs_eq _ _ _) ⟨_, rfl, rfl⟩ (kX5_no hst (hs_eq _ _ _) ) (Nat.le_of_ble_eq_true rfl) (Nat.le_of_ble_eq_true rfl) (by omega) (by omega) (Nat.le_of_ble_eq_true rfl) GX.no (pq ?_)
  show GW X 27 [some (.ref 40), some (.int a), some (.int b), some (.int d), none] [.int (nI 0)] (hs (hs h 40 (oB 5 [.int (nI 0), .int (nI rc), .ref 41, .ref 42, .ref 43, .int (nI mc), .ref 44, .ref 45, .int tch, .int frs, .ref 46, .ref 47, .int len, .ref 48, .ref 49, .ref 50, .ref 51, .ref 56])) 40 (oB 5 [.int (nI 1), .int (nI rc), .ref 41, .ref 42, .ref 43, .int (nI mc), .ref 44, .ref 45, .int tch, .int frs, .ref 46, .ref 47, .int len, .ref 48, .ref 49, .ref 50, .ref 51, .ref 56])) n 0 0
  refine g_cg rfl hs_hs ?_
  refine g_ireturn hX hr dX5_seat_27 (Nat.le_refl _) (Nat.le_refl _)  ?_
  exact ⟨rfl, rfl, fun j hj => (hs_ne (by omega)).trans (rfl), ⟨_, _, _, _, _, _, _, _, _, _, _, (hs_eq _ _ _), ((hs_ne (by omega)).trans (mco)), ((hs_ne (by omega)).trans (mdg)), ((hs_ne (by omega)).trans (mrw)), ((hs_ne (by omega)).trans (mgo)), ((hs_ne (by omega)).trans (mwe)), ((hs_ne (by omega)).trans (a0)), ((hs_ne (by omega)).trans (avt)), ((hs_ne (by omega)).trans (ati)), ((hs_ne (by omega)).trans (afa)), ((hs_ne (by omega)).trans (ast))⟩⟩
set_option maxRecDepth 20000 in
theorem kX5_seat_w {l : Launch} {K : gw_K} (hst : l.stackTraces = false) {n : Nat} {h : gw_H} {rc mc : Nat} {thr tch frs len dy ady : Int32} {mn : Nat → Nat} {wd sk ws cs co dg rw_ go we vt ti fa st avt ati afa ast : Nat → Int32} {a b : Nat} {d : Int32} (m0 : h 40 = (oB 5 [.int thr, .int (nI rc), .ref 41, .ref 42, .ref 43, .int (nI mc), .ref 44, .ref 45, .int tch, .int frs, .ref 46, .ref 47, .int len, .ref 48, .ref 49, .ref 50, .ref 51, .ref 56])) (mwd : h 41 = (aI 20 wd)) (msk : h 42 = (aI 20 sk)) (mws : h 43 = (aI 18 ws)) (mmn : h 44 = (aI 5 (fun k => nI (mn k)))) (mcs : h 45 = (aI 60 cs)) (mco : h 46 = (aI 201 co)) (mdg : h 47 = (aI 201 dg)) (mrw : h 48 = (aI 6 rw_)) (mgo : h 49 = (aI 6 go)) (mwe : h 50 = (aI 6 we)) (s0 : h 51 = (oB 4 [.int dy, .ref (51 + 1), .ref (51 + 2), .ref (51 + 3), .ref (51 + 4), .ref 40])) (svt : h (51 + 1) = (aI 20 vt)) (sti : h (51 + 2) = (aI 20 ti)) (sfa : h (51 + 3) = (aI 20 fa)) (sst : h (51 + 4) = (aI 20 st)) (a0 : h 56 = (oB 4 [.int ady, .ref (56 + 1), .ref (56 + 2), .ref (56 + 3), .ref (56 + 4), .ref 40])) (avt : h (56 + 1) = (aI 20 avt)) (ati : h (56 + 2) = (aI 20 ati)) (afa : h (56 + 3) = (aI 20 afa)) (ast : h (56 + 4) = (aI 20 ast)) (hn62 : 62 ≤ n) (ha : a < 3) (hb : b < 6) (hz : d < 0 ∨ nI 4 ≤ d) : Ctr l K mX5_seat [.ref 40, .int (nI a), .int (nI b), .int d] h n 0 0 (PM (some (.int (nI 0))) h n (nI 1) rc mc tch frs) (PX0) := by
  refine Ctr.of hst pn_X5_seat (Nat.le_of_ble_eq_true rfl) (fun X hX hr hE => ?_)
  have hX : FX l K X cX5_seat RX5 2 43 0 0 := hX
  show GW X 0 [some (.ref 40), some (.int (nI a)), some (.int (nI b)), some (.int d), none] [] h n 0 0
  refine g_aload_n hX dX5_seat_0 rfl rfl ?_
  refine g_iconst (v := (nI 0)) hX dX5_seat_1 (by decide) ?_
  refine g_putI hX dX5_seat_2 fl_X5_52 (m0) (Nat.le_of_ble_eq_true rfl) ?_
  show GW X 5 [some (.ref 40), some (.int (nI a)), some (.int (nI b)), some (.int d), none] [] (hs h 40 (oB 5 [.int (nI 0), .int (nI rc), .ref 41, .ref 42, .ref 43, .int (nI mc), .ref 44, .ref 45, .int tch, .int frs, .ref 46, .ref 47, .int len, .ref 48, .ref 49, .ref 50, .ref 51, .ref 56])) n 0 0
  refine g_iload_n hX dX5_seat_5 rfl rfl ?_
  refine g_iload_n hX dX5_seat_6 rfl rfl ?_
  refine g_callS (As := [.int (nI a), .int (nI b)]) hX dX5_seat_7 cb_X5_isSeat ml_X5_106 st_X5_isSeat rfl rfl (kX5_isSeat hst ha hb) (Nat.le_of_ble_eq_true rfl) (Nat.le_of_ble_eq_true rfl) (by omega) (by omega) (Nat.le_of_ble_eq_true rfl) GX.no (pq ?_)
  show GW X 10 [some (.ref 40), some (.int (nI a)), some (.int (nI b)), some (.int d), none] [.int (nI 1)] (hs h 40 (oB 5 [.int (nI 0), .int (nI rc), .ref 41, .ref 42, .ref 43, .int (nI mc), .ref 44, .ref 45, .int tch, .int frs, .ref 46, .ref 47, .int len, .ref 48, .ref 49, .ref 50, .ref 51, .ref 56])) n 0 0
  refine g_if_eq (tgt := 22) hX dX5_seat_10 (by decide) (fun c => absurd c (by decide)) (fun _ => ?_)
  refine g_iload_n hX dX5_seat_13 rfl rfl ?_
  refine g_iconst (v := (nI 0)) hX dX5_seat_14 (by decide) ?_
  refine g_iconst (v := (nI 3)) hX dX5_seat_15 (by decide) ?_
  refine g_callS (As := [.int d, .int (nI 0), .int (nI 3)]) hX dX5_seat_16 cb_X5_isIn ml_X5_59 st_X5_isIn rfl rfl (kX5_isIn_x hst (hz.imp id (gn_up (by omega)))) (Nat.le_of_ble_eq_true rfl) (Nat.le_of_ble_eq_true rfl) (by omega) (by omega) (Nat.le_of_ble_eq_true rfl) GX.no (pq ?_)
  show GW X 19 [some (.ref 40), some (.int (nI a)), some (.int (nI b)), some (.int d), none] [.int (nI 0)] (hs h 40 (oB 5 [.int (nI 0), .int (nI rc), .ref 41, .ref 42, .ref 43, .int (nI mc), .ref 44, .ref 45, .int tch, .int frs, .ref 46, .ref 47, .int len, .ref 48, .ref 49, .ref 50, .ref 51, .ref 56])) n 0 0
  refine g_if_ne (tgt := 28) hX dX5_seat_19 (by decide) (fun c => absurd c (by decide)) (fun _ => ?_)
  refine g_aload_n hX dX5_seat_22 rfl rfl ?_
  refine g_iconst (v := (nI 1)) hX dX5_seat_23 (by decide) ?_
  refine g_callV (As := [.int (nI 1)]) hX dX5_seat_24 cb_X5_no ml_X5_84 im_X5_no se_X5_no rfl rfl (hs_eq _ _ _) ⟨_, rfl, rfl⟩ (kX5_no hst (hs_eq _ _ _) ) (Nat.le_of_ble_eq_true rfl) (Nat.le_of_ble_eq_true rfl) (by omega) (by omega) (Nat.le_of_ble_eq_true rfl) GX.no (pq ?_)
  show GW X 27 [some (.ref 40), some (.int (nI a)), some (.int (nI b)), some (.int d), none] [.int (nI 0)] (hs (hs h 40 (oB 5 [.int (nI 0), .int (nI rc), .ref 41, .ref 42, .ref 43, .int (nI mc), .ref 44, .ref 45, .int tch, .int frs, .ref 46, .ref 47, .int len, .ref 48, .ref 49, .ref 50, .ref 51, .ref 56])) 40 (oB 5 [.int (nI 1), .int (nI rc), .ref 41, .ref 42, .ref 43, .int (nI mc), .ref 44, .ref 45, .int tch, .int frs, .ref 46, .ref 47, .int len, .ref 48, .ref 49, .ref 50, .ref 51, .ref 56])) n 0 0
  refine g_cg rfl hs_hs ?_
  refine g_ireturn hX hr dX5_seat_27 (Nat.le_refl _) (Nat.le_refl _)  ?_
  exact ⟨rfl, rfl, fun j hj => (hs_ne (by omega)).trans (rfl), ⟨_, _, _, _, _, _, _, _, _, _, _, (hs_eq _ _ _), ((hs_ne (by omega)).trans (mco)), ((hs_ne (by omega)).trans (mdg)), ((hs_ne (by omega)).trans (mrw)), ((hs_ne (by omega)).trans (mgo)), ((hs_ne (by omega)).trans (mwe)), ((hs_ne (by omega)).trans (a0)), ((hs_ne (by omega)).trans (avt)), ((hs_ne (by omega)).trans (ati)), ((hs_ne (by omega)).trans (afa)), ((hs_ne (by omega)).trans (ast))⟩⟩
set_option maxRecDepth 20000 in
theorem kX5_seat {l : Launch} {K : gw_K} (hst : l.stackTraces = false) {n : Nat} {h : gw_H} {rc mc : Nat} {thr tch frs len dy ady : Int32} {mn : Nat → Nat} {wd sk ws cs co dg rw_ go we vt ti fa st avt ati afa ast : Nat → Int32} {a b d : Nat} (m0 : h 40 = (oB 5 [.int thr, .int (nI rc), .ref 41, .ref 42, .ref 43, .int (nI mc), .ref 44, .ref 45, .int tch, .int frs, .ref 46, .ref 47, .int len, .ref 48, .ref 49, .ref 50, .ref 51, .ref 56])) (mwd : h 41 = (aI 20 wd)) (msk : h 42 = (aI 20 sk)) (mws : h 43 = (aI 18 ws)) (mmn : h 44 = (aI 5 (fun k => nI (mn k)))) (mcs : h 45 = (aI 60 cs)) (mco : h 46 = (aI 201 co)) (mdg : h 47 = (aI 201 dg)) (mrw : h 48 = (aI 6 rw_)) (mgo : h 49 = (aI 6 go)) (mwe : h 50 = (aI 6 we)) (s0 : h 51 = (oB 4 [.int dy, .ref (51 + 1), .ref (51 + 2), .ref (51 + 3), .ref (51 + 4), .ref 40])) (svt : h (51 + 1) = (aI 20 vt)) (sti : h (51 + 2) = (aI 20 ti)) (sfa : h (51 + 3) = (aI 20 fa)) (sst : h (51 + 4) = (aI 20 st)) (a0 : h 56 = (oB 4 [.int ady, .ref (56 + 1), .ref (56 + 2), .ref (56 + 3), .ref (56 + 4), .ref 40])) (avt : h (56 + 1) = (aI 20 avt)) (ati : h (56 + 2) = (aI 20 ati)) (afa : h (56 + 3) = (aI 20 afa)) (ast : h (56 + 4) = (aI 20 ast)) (hn62 : 62 ≤ n) (ha : a < 3) (hb : b < 6) (hd4 : d < 4) : Ctr l K mX5_seat [.ref 40, .int (nI a), .int (nI b), .int (nI d)] h n 0 0 (PM (some (.int (ws (6 * a + b)))) (hs h 43 (aI 18 (upd ws (6 * a + b) (nI d)))) n (nI 0) rc mc tch frs) (PX0) := by
  refine Ctr.of hst pn_X5_seat (Nat.le_of_ble_eq_true rfl) (fun X hX hr hE => ?_)
  have hX : FX l K X cX5_seat RX5 2 43 0 0 := hX
  show GW X 0 [some (.ref 40), some (.int (nI a)), some (.int (nI b)), some (.int (nI d)), none] [] h n 0 0
  refine g_aload_n hX dX5_seat_0 rfl rfl ?_
  refine g_iconst (v := (nI 0)) hX dX5_seat_1 (by decide) ?_
  refine g_putI hX dX5_seat_2 fl_X5_52 (m0) (Nat.le_of_ble_eq_true rfl) ?_
  show GW X 5 [some (.ref 40), some (.int (nI a)), some (.int (nI b)), some (.int (nI d)), none] [] (hs h 40 (oB 5 [.int (nI 0), .int (nI rc), .ref 41, .ref 42, .ref 43, .int (nI mc), .ref 44, .ref 45, .int tch, .int frs, .ref 46, .ref 47, .int len, .ref 48, .ref 49, .ref 50, .ref 51, .ref 56])) n 0 0
  refine g_iload_n hX dX5_seat_5 rfl rfl ?_
  refine g_iload_n hX dX5_seat_6 rfl rfl ?_
  refine g_callS (As := [.int (nI a), .int (nI b)]) hX dX5_seat_7 cb_X5_isSeat ml_X5_106 st_X5_isSeat rfl rfl (kX5_isSeat hst ha hb) (Nat.le_of_ble_eq_true rfl) (Nat.le_of_ble_eq_true rfl) (by omega) (by omega) (Nat.le_of_ble_eq_true rfl) GX.no (pq ?_)
  show GW X 10 [some (.ref 40), some (.int (nI a)), some (.int (nI b)), some (.int (nI d)), none] [.int (nI 1)] (hs h 40 (oB 5 [.int (nI 0), .int (nI rc), .ref 41, .ref 42, .ref 43, .int (nI mc), .ref 44, .ref 45, .int tch, .int frs, .ref 46, .ref 47, .int len, .ref 48, .ref 49, .ref 50, .ref 51, .ref 56])) n 0 0
  refine g_if_eq (tgt := 22) hX dX5_seat_10 (by decide) (fun c => absurd c (by decide)) (fun _ => ?_)
  refine g_iload_n hX dX5_seat_13 rfl rfl ?_
  refine g_iconst (v := (nI 0)) hX dX5_seat_14 (by decide) ?_
  refine g_iconst (v := (nI 3)) hX dX5_seat_15 (by decide) ?_
  refine g_callS (As := [.int (nI d), .int (nI 0), .int (nI 3)]) hX dX5_seat_16 cb_X5_isIn ml_X5_59 st_X5_isIn rfl rfl (kX5_isIn hst (gn_okW (by omega) (by omega) (by omega))) (Nat.le_of_ble_eq_true rfl) (Nat.le_of_ble_eq_true rfl) (by omega) (by omega) (Nat.le_of_ble_eq_true rfl) GX.no (pq ?_)
  show GW X 19 [some (.ref 40), some (.int (nI a)), some (.int (nI b)), some (.int (nI d)), none] [.int (nI 1)] (hs h 40 (oB 5 [.int (nI 0), .int (nI rc), .ref 41, .ref 42, .ref 43, .int (nI mc), .ref 44, .ref 45, .int tch, .int frs, .ref 46, .ref 47, .int len, .ref 48, .ref 49, .ref 50, .ref 51, .ref 56])) n 0 0
  refine g_if_ne (tgt := 28) hX dX5_seat_19 (by decide) (fun _ => ?_) (fun c => absurd c (by decide))
  refine g_aload_n hX dX5_seat_28 rfl rfl ?_
  refine g_getf hX dX5_seat_29 fl_X5_16 (hs_eq _ _ _) rfl ?_
  refine g_bipush (v := (nI 6)) hX dX5_seat_32 (by decide) ?_
  refine g_iload_n hX dX5_seat_34 rfl rfl ?_
  refine g_imulN hX dX5_seat_35 ?_
  refine g_iload_n hX dX5_seat_36 rfl rfl ?_
  refine g_iaddN hX dX5_seat_37 ?_
  refine g_iaload hX dX5_seat_38 ((hs_ne (by omega)).trans (mws)) ((6 * a) + b) (by omega) rfl (by omega) ?_
  refine g_istore hX dX5_seat_39 (Nat.le_of_ble_eq_true rfl) rfl ?_
  refine g_aload_n hX dX5_seat_41 rfl rfl ?_
  refine g_getf hX dX5_seat_42 fl_X5_16 (hs_eq _ _ _) rfl ?_
  refine g_bipush (v := (nI 6)) hX dX5_seat_45 (by decide) ?_
  refine g_iload_n hX dX5_seat_47 rfl rfl ?_
  refine g_imulN hX dX5_seat_48 ?_
  refine g_iload_n hX dX5_seat_49 rfl rfl ?_
  refine g_iaddN hX dX5_seat_50 ?_
  refine g_iload_n hX dX5_seat_51 rfl rfl ?_
  refine g_iastore hX dX5_seat_52 ((hs_ne (by omega)).trans (mws)) ((6 * a) + b) (by omega) rfl (by omega) ?_
  refine g_iload hX dX5_seat_53 rfl ?_
  refine g_ireturn hX hr dX5_seat_55 (Nat.le_refl _) (Nat.le_refl _)  ?_
  exact ⟨rfl, rfl, fun j hj => hs_cgj ((hs_ne (by omega)).trans (rfl)), ⟨_, _, _, _, _, _, _, _, _, _, _, ((hs_ne (by omega)).trans (hs_eq _ _ _)), ((hs_ne (by omega)).trans ((hs_ne (by omega)).trans (mco))), ((hs_ne (by omega)).trans ((hs_ne (by omega)).trans (mdg))), ((hs_ne (by omega)).trans ((hs_ne (by omega)).trans (mrw))), ((hs_ne (by omega)).trans ((hs_ne (by omega)).trans (mgo))), ((hs_ne (by omega)).trans ((hs_ne (by omega)).trans (mwe))), ((hs_ne (by omega)).trans ((hs_ne (by omega)).trans (a0))), ((hs_ne (by omega)).trans ((hs_ne (by omega)).trans (avt))), ((hs_ne (by omega)).trans ((hs_ne (by omega)).trans (ati))), ((hs_ne (by omega)).trans ((hs_ne (by omega)).trans (afa))), ((hs_ne (by omega)).trans ((hs_ne (by omega)).trans (ast)))⟩⟩
set_option maxRecDepth 20000 in
theorem kX5_elect_b {l : Launch} {K : gw_K} (hst : l.stackTraces = false) {n : Nat} {h : gw_H} {rc mc : Nat} {thr tch frs len dy ady : Int32} {mn : Nat → Nat} {wd sk ws cs co dg rw_ go we vt ti fa st avt ati afa ast : Nat → Int32} {a : Int32} (m0 : h 40 = (oB 5 [.int thr, .int (nI rc), .ref 41, .ref 42, .ref 43, .int (nI mc), .ref 44, .ref 45, .int tch, .int frs, .ref 46, .ref 47, .int len, .ref 48, .ref 49, .ref 50, .ref 51, .ref 56])) (mwd : h 41 = (aI 20 wd)) (msk : h 42 = (aI 20 sk)) (mws : h 43 = (aI 18 ws)) (mmn : h 44 = (aI 5 (fun k => nI (mn k)))) (mcs : h 45 = (aI 60 cs)) (mco : h 46 = (aI 201 co)) (mdg : h 47 = (aI 201 dg)) (mrw : h 48 = (aI 6 rw_)) (mgo : h 49 = (aI 6 go)) (mwe : h 50 = (aI 6 we)) (s0 : h 51 = (oB 4 [.int dy, .ref (51 + 1), .ref (51 + 2), .ref (51 + 3), .ref (51 + 4), .ref 40])) (svt : h (51 + 1) = (aI 20 vt)) (sti : h (51 + 2) = (aI 20 ti)) (sfa : h (51 + 3) = (aI 20 fa)) (sst : h (51 + 4) = (aI 20 st)) (a0 : h 56 = (oB 4 [.int ady, .ref (56 + 1), .ref (56 + 2), .ref (56 + 3), .ref (56 + 4), .ref 40])) (avt : h (56 + 1) = (aI 20 avt)) (ati : h (56 + 2) = (aI 20 ati)) (afa : h (56 + 3) = (aI 20 afa)) (ast : h (56 + 4) = (aI 20 ast)) (hn62 : 62 ≤ n) (hz : a < 0 ∨ nI 3 ≤ a) : Ctr l K mX5_elect [.ref 40, .int a] h n 0 0 (PM (some (.int (nI 0))) h n (nI 1) rc mc tch frs) (PX0) := by
  refine Ctr.of hst pn_X5_elect (Nat.le_of_ble_eq_true rfl) (fun X hX hr hE => ?_)
  have hX : FX l K X cX5_elect RX5 1 24 0 0 := hX
  show GW X 0 [some (.ref 40), some (.int a)] [] h n 0 0
  refine g_aload_n hX dX5_elect_0 rfl rfl ?_
  refine g_iconst (v := (nI 0)) hX dX5_elect_1 (by decide) ?_
  refine g_putI hX dX5_elect_2 fl_X5_52 (m0) (Nat.le_of_ble_eq_true rfl) ?_
  show GW X 5 [some (.ref 40), some (.int a)] [] (hs h 40 (oB 5 [.int (nI 0), .int (nI rc), .ref 41, .ref 42, .ref 43, .int (nI mc), .ref 44, .ref 45, .int tch, .int frs, .ref 46, .ref 47, .int len, .ref 48, .ref 49, .ref 50, .ref 51, .ref 56])) n 0 0
  refine g_iload_n hX dX5_elect_5 rfl rfl ?_
  refine g_iconst (v := (nI 0)) hX dX5_elect_6 (by decide) ?_
  refine g_iconst (v := (nI 2)) hX dX5_elect_7 (by decide) ?_
  refine g_callS (As := [.int a, .int (nI 0), .int (nI 2)]) hX dX5_elect_8 cb_X5_isIn ml_X5_59 st_X5_isIn rfl rfl (kX5_isIn_x hst (hz.imp id (gn_up (by omega)))) (Nat.le_of_ble_eq_true rfl) (Nat.le_of_ble_eq_true rfl) (by omega) (by omega) (Nat.le_of_ble_eq_true rfl) GX.no (pq ?_)
  show GW X 11 [some (.ref 40), some (.int a)] [.int (nI 0)] (hs h 40 (oB 5 [.int (nI 0), .int (nI rc), .ref 41, .ref 42, .ref 43, .int (nI mc), .ref 44, .ref 45, .int tch, .int frs, .ref 46, .ref 47, .int len, .ref 48, .ref 49, .ref 50, .ref 51, .ref 56])) n 0 0
  refine g_if_eq (tgt := 29) hX dX5_elect_11 (by decide) (fun _ => ?_) (fun c => absurd (by decide) c)
  refine g_aload_n hX dX5_elect_29 rfl rfl ?_
  refine g_iconst (v := (nI 1)) hX dX5_elect_30 (by decide) ?_
  refine g_callV (As := [.int (nI 1)]) hX dX5_elect_31 cb_X5_no ml_X5_84 im_X5_no se_X5_no rfl rfl (hs_eq _ _ _) ⟨_, rfl, rfl⟩ (kX5_no hst (hs_eq _ _ _) ) (Nat.le_of_ble_eq_true rfl) (Nat.le_of_ble_eq_true rfl) (by omega) (by omega) (Nat.le_of_ble_eq_true rfl) GX.no (pq ?_)
  show GW X 34 [some (.ref 40), some (.int a)] [.int (nI 0)] (hs (hs h 40 (oB 5 [.int (nI 0), .int (nI rc), .ref 41, .ref 42, .ref 43, .int (nI mc), .ref 44, .ref 45, .int tch, .int frs, .ref 46, .ref 47, .int len, .ref 48, .ref 49, .ref 50, .ref 51, .ref 56])) 40 (oB 5 [.int (nI 1), .int (nI rc), .ref 41, .ref 42, .ref 43, .int (nI mc), .ref 44, .ref 45, .int tch, .int frs, .ref 46, .ref 47, .int len, .ref 48, .ref 49, .ref 50, .ref 51, .ref 56])) n 0 0
  refine g_cg rfl hs_hs ?_
  refine g_ireturn hX hr dX5_elect_34 (Nat.le_refl _) (Nat.le_refl _)  ?_
  exact ⟨rfl, rfl, fun j hj => (hs_ne (by omega)).trans (rfl), ⟨_, _, _, _, _, _, _, _, _, _, _, (hs_eq _ _ _), ((hs_ne (by omega)).trans (mco)), ((hs_ne (by omega)).trans (mdg)), ((hs_ne (by omega)).trans (mrw)), ((hs_ne (by omega)).trans (mgo)), ((hs_ne (by omega)).trans (mwe)), ((hs_ne (by omega)).trans (a0)), ((hs_ne (by omega)).trans (avt)), ((hs_ne (by omega)).trans (ati)), ((hs_ne (by omega)).trans (afa)), ((hs_ne (by omega)).trans (ast))⟩⟩
set_option maxRecDepth 20000 in
theorem kX5_elect {l : Launch} {K : gw_K} (hst : l.stackTraces = false) {n : Nat} {h : gw_H} {rc mc : Nat} {thr tch frs len dy ady : Int32} {mn : Nat → Nat} {wd sk ws cs co dg rw_ go we vt ti fa st avt ati afa ast : Nat → Int32} {a : Nat} (m0 : h 40 = (oB 5 [.int thr, .int (nI rc), .ref 41, .ref 42, .ref 43, .int (nI mc), .ref 44, .ref 45, .int tch, .int frs, .ref 46, .ref 47, .int len, .ref 48, .ref 49, .ref 50, .ref 51, .ref 56])) (mwd : h 41 = (aI 20 wd)) (msk : h 42 = (aI 20 sk)) (mws : h 43 = (aI 18 ws)) (mmn : h 44 = (aI 5 (fun k => nI (mn k)))) (mcs : h 45 = (aI 60 cs)) (mco : h 46 = (aI 201 co)) (mdg : h 47 = (aI 201 dg)) (mrw : h 48 = (aI 6 rw_)) (mgo : h 49 = (aI 6 go)) (mwe : h 50 = (aI 6 we)) (s0 : h 51 = (oB 4 [.int dy, .ref (51 + 1), .ref (51 + 2), .ref (51 + 3), .ref (51 + 4), .ref 40])) (svt : h (51 + 1) = (aI 20 vt)) (sti : h (51 + 2) = (aI 20 ti)) (sfa : h (51 + 3) = (aI 20 fa)) (sst : h (51 + 4) = (aI 20 st)) (a0 : h 56 = (oB 4 [.int ady, .ref (56 + 1), .ref (56 + 2), .ref (56 + 3), .ref (56 + 4), .ref 40])) (avt : h (56 + 1) = (aI 20 avt)) (ati : h (56 + 2) = (aI 20 ati)) (afa : h (56 + 3) = (aI 20 afa)) (ast : h (56 + 4) = (aI 20 ast)) (hn62 : 62 ≤ n) (hrc : rc ≤ 20) (ha : a < 3) (hsi : seatI st rc) (hvp : ∀ r, r < rc → 0 ≤ vt r) : Ctr l K mX5_elect [.ref 40, .int (nI a)] h n 0 0 (PM (some (.int (cntI (elB wd vt ws rc st a) rc (nI a)))) (hs h (51 + 4) (aI 20 (elB wd vt ws rc st a))) n (nI 0) rc mc tch frs) (PX0) := by
  refine Ctr.of hst pn_X5_elect (Nat.le_of_ble_eq_true rfl) (fun X hX hr hE => ?_)
  have hX : FX l K X cX5_elect RX5 1 24 0 0 := hX
  show GW X 0 [some (.ref 40), some (.int (nI a))] [] h n 0 0
  have hso9 : ∀ r, r < rc → seatOK (st r) := fun r hr => (hsi r hr).1
  refine g_aload_n hX dX5_elect_0 rfl rfl ?_
  refine g_iconst (v := (nI 0)) hX dX5_elect_1 (by decide) ?_
  refine g_putI hX dX5_elect_2 fl_X5_52 (m0) (Nat.le_of_ble_eq_true rfl) ?_
  show GW X 5 [some (.ref 40), some (.int (nI a))] [] (hs h 40 (oB 5 [.int (nI 0), .int (nI rc), .ref 41, .ref 42, .ref 43, .int (nI mc), .ref 44, .ref 45, .int tch, .int frs, .ref 46, .ref 47, .int len, .ref 48, .ref 49, .ref 50, .ref 51, .ref 56])) n 0 0
  refine g_iload_n hX dX5_elect_5 rfl rfl ?_
  refine g_iconst (v := (nI 0)) hX dX5_elect_6 (by decide) ?_
  refine g_iconst (v := (nI 2)) hX dX5_elect_7 (by decide) ?_
  refine g_callS (As := [.int (nI a), .int (nI 0), .int (nI 2)]) hX dX5_elect_8 cb_X5_isIn ml_X5_59 st_X5_isIn rfl rfl (kX5_isIn hst (gn_okW (by omega) (by omega) (by omega))) (Nat.le_of_ble_eq_true rfl) (Nat.le_of_ble_eq_true rfl) (by omega) (by omega) (Nat.le_of_ble_eq_true rfl) GX.no (pq ?_)
  show GW X 11 [some (.ref 40), some (.int (nI a))] [.int (nI 1)] (hs h 40 (oB 5 [.int (nI 0), .int (nI rc), .ref 41, .ref 42, .ref 43, .int (nI mc), .ref 44, .ref 45, .int tch, .int frs, .ref 46, .ref 47, .int len, .ref 48, .ref 49, .ref 50, .ref 51, .ref 56])) n 0 0
  refine g_if_eq (tgt := 29) hX dX5_elect_11 (by decide) (fun c => absurd c (by decide)) (fun _ => ?_)
  refine g_aload_n hX dX5_elect_14 rfl rfl ?_
  refine g_getf hX dX5_elect_15 fl_X5_45 (hs_eq _ _ _) rfl ?_
  refine g_iload_n hX dX5_elect_18 rfl rfl ?_
  refine g_callV (As := [.int (nI a)]) hX dX5_elect_19 cb_X4_elect ml_X5_110 im_X4_elect se_X4_elect rfl rfl ((hs_ne (by omega)).trans (s0)) ⟨_, rfl, rfl⟩ (kX4_elect hst (hs_eq _ _ _) ((hs_ne (by omega)).trans (mwd)) ((hs_ne (by omega)).trans (mws)) ((hs_ne (by omega)).trans (s0)) ((hs_ne (by omega)).trans (svt)) ((hs_ne (by omega)).trans (sst)) (by omega) (by omega) (by omega) (hso9) (hvp)) (Nat.le_of_ble_eq_true rfl) (Nat.le_of_ble_eq_true rfl) (by omega) (by omega) (Nat.le_of_ble_eq_true rfl) GX.no (pq ?_)
  show GW X 22 [some (.ref 40), some (.int (nI a))] [.ref 51] (hs (hs h 40 (oB 5 [.int (nI 0), .int (nI rc), .ref 41, .ref 42, .ref 43, .int (nI mc), .ref 44, .ref 45, .int tch, .int frs, .ref 46, .ref 47, .int len, .ref 48, .ref 49, .ref 50, .ref 51, .ref 56])) (51 + 4) (aI 20 (elB wd vt ws rc st a))) n 0 0
  have hso9 : ∀ r, r < rc → seatOK ((elB wd vt ws rc st a) r) := fun r hr => (elB_I (wd := wd) (vt := vt) (ws := ws) hrc ha hsi r hr).1
  refine g_iload_n hX dX5_elect_22 rfl rfl ?_
  refine g_callV (As := [.int (nI a)]) hX dX5_elect_23 cb_X4_manned ml_X5_114 im_X4_manned se_X4_manned rfl rfl ((hs_ne (by omega)).trans ((hs_ne (by omega)).trans (s0))) ⟨_, rfl, rfl⟩ (kX4_manned hst ((hs_ne (by omega)).trans (hs_eq _ _ _)) ((hs_ne (by omega)).trans ((hs_ne (by omega)).trans (s0))) (hs_eq _ _ _) (by omega) (by omega) (hso9)) (Nat.le_of_ble_eq_true rfl) (Nat.le_of_ble_eq_true rfl) (by omega) (by omega) (Nat.le_of_ble_eq_true rfl) GX.no (pq ?_)
  show GW X 26 [some (.ref 40), some (.int (nI a))] [.int (cntI (elB wd vt ws rc st a) rc (nI a))] (hs (hs h 40 (oB 5 [.int (nI 0), .int (nI rc), .ref 41, .ref 42, .ref 43, .int (nI mc), .ref 44, .ref 45, .int tch, .int frs, .ref 46, .ref 47, .int len, .ref 48, .ref 49, .ref 50, .ref 51, .ref 56])) (51 + 4) (aI 20 (elB wd vt ws rc st a))) n 0 0
  refine g_goto (tgt := 34) hX dX5_elect_26 (by decide) ?_
  refine g_ireturn hX hr dX5_elect_34 (Nat.le_refl _) (Nat.le_refl _)  ?_
  exact ⟨rfl, rfl, fun j hj => hs_cgj ((hs_ne (by omega)).trans (rfl)), ⟨_, _, _, _, _, _, _, _, _, _, _, ((hs_ne (by omega)).trans (hs_eq _ _ _)), ((hs_ne (by omega)).trans ((hs_ne (by omega)).trans (mco))), ((hs_ne (by omega)).trans ((hs_ne (by omega)).trans (mdg))), ((hs_ne (by omega)).trans ((hs_ne (by omega)).trans (mrw))), ((hs_ne (by omega)).trans ((hs_ne (by omega)).trans (mgo))), ((hs_ne (by omega)).trans ((hs_ne (by omega)).trans (mwe))), ((hs_ne (by omega)).trans ((hs_ne (by omega)).trans (a0))), ((hs_ne (by omega)).trans ((hs_ne (by omega)).trans (avt))), ((hs_ne (by omega)).trans ((hs_ne (by omega)).trans (ati))), ((hs_ne (by omega)).trans ((hs_ne (by omega)).trans (afa))), ((hs_ne (by omega)).trans ((hs_ne (by omega)).trans (ast)))⟩⟩
set_option maxRecDepth 20000 in
theorem kX5_put_s {l : Launch} {K : gw_K} (hst : l.stackTraces = false) {n : Nat} {h : gw_H} {rc mc : Nat} {thr tch frs len dy ady : Int32} {mn : Nat → Nat} {wd sk ws cs co dg rw_ go we vt ti fa st avt ati afa ast : Nat → Int32} {a b d : Int32} (m0 : h 40 = (oB 5 [.int thr, .int (nI rc), .ref 41, .ref 42, .ref 43, .int (nI mc), .ref 44, .ref 45, .int tch, .int frs, .ref 46, .ref 47, .int len, .ref 48, .ref 49, .ref 50, .ref 51, .ref 56])) (mwd : h 41 = (aI 20 wd)) (msk : h 42 = (aI 20 sk)) (mws : h 43 = (aI 18 ws)) (mmn : h 44 = (aI 5 (fun k => nI (mn k)))) (mcs : h 45 = (aI 60 cs)) (mco : h 46 = (aI 201 co)) (mdg : h 47 = (aI 201 dg)) (mrw : h 48 = (aI 6 rw_)) (mgo : h 49 = (aI 6 go)) (mwe : h 50 = (aI 6 we)) (s0 : h 51 = (oB 4 [.int dy, .ref (51 + 1), .ref (51 + 2), .ref (51 + 3), .ref (51 + 4), .ref 40])) (svt : h (51 + 1) = (aI 20 vt)) (sti : h (51 + 2) = (aI 20 ti)) (sfa : h (51 + 3) = (aI 20 fa)) (sst : h (51 + 4) = (aI 20 st)) (a0 : h 56 = (oB 4 [.int ady, .ref (56 + 1), .ref (56 + 2), .ref (56 + 3), .ref (56 + 4), .ref 40])) (avt : h (56 + 1) = (aI 20 avt)) (ati : h (56 + 2) = (aI 20 ati)) (afa : h (56 + 3) = (aI 20 afa)) (ast : h (56 + 4) = (aI 20 ast)) (hn62 : 62 ≤ n) (hz : (a < 0 ∨ nI 3 ≤ a) ∨ (b < 0 ∨ nI 6 ≤ b)) : Ctr l K mX5_put [.ref 40, .int a, .int b, .int d] h n 0 0 (PM (some (.int (nI 0))) h n (nI 1) rc mc tch frs) (PX0) := by
  refine Ctr.of hst pn_X5_put (Nat.le_of_ble_eq_true rfl) (fun X hX hr hE => ?_)
  have hX : FX l K X cX5_put RX5 2 43 0 0 := hX
  show GW X 0 [some (.ref 40), some (.int a), some (.int b), some (.int d)] [] h n 0 0
  refine g_aload_n hX dX5_put_0 rfl rfl ?_
  refine g_iconst (v := (nI 0)) hX dX5_put_1 (by decide) ?_
  refine g_putI hX dX5_put_2 fl_X5_52 (m0) (Nat.le_of_ble_eq_true rfl) ?_
  show GW X 5 [some (.ref 40), some (.int a), some (.int b), some (.int d)] [] (hs h 40 (oB 5 [.int (nI 0), .int (nI rc), .ref 41, .ref 42, .ref 43, .int (nI mc), .ref 44, .ref 45, .int tch, .int frs, .ref 46, .ref 47, .int len, .ref 48, .ref 49, .ref 50, .ref 51, .ref 56])) n 0 0
  refine g_iload_n hX dX5_put_5 rfl rfl ?_
  refine g_iload_n hX dX5_put_6 rfl rfl ?_
  refine g_callS (As := [.int a, .int b]) hX dX5_put_7 cb_X5_isSeat ml_X5_106 st_X5_isSeat rfl rfl (kX5_isSeat_x hst hz) (Nat.le_of_ble_eq_true rfl) (Nat.le_of_ble_eq_true rfl) (by omega) (by omega) (Nat.le_of_ble_eq_true rfl) GX.no (pq ?_)
  show GW X 10 [some (.ref 40), some (.int a), some (.int b), some (.int d)] [.int (nI 0)] (hs h 40 (oB 5 [.int (nI 0), .int (nI rc), .ref 41, .ref 42, .ref 43, .int (nI mc), .ref 44, .ref 45, .int tch, .int frs, .ref 46, .ref 47, .int len, .ref 48, .ref 49, .ref 50, .ref 51, .ref 56])) n 0 0
  refine g_if_eq (tgt := 21) hX dX5_put_10 (by decide) (fun _ => ?_) (fun c => absurd (by decide) c)
  refine g_aload_n hX dX5_put_21 rfl rfl ?_
  refine g_iconst (v := (nI 1)) hX dX5_put_22 (by decide) ?_
  refine g_callV (As := [.int (nI 1)]) hX dX5_put_23 cb_X5_no ml_X5_84 im_X5_no se_X5_no rfl rfl (hs_eq _ _ _) ⟨_, rfl, rfl⟩ (kX5_no hst (hs_eq _ _ _) ) (Nat.le_of_ble_eq_true rfl) (Nat.le_of_ble_eq_true rfl) (by omega) (by omega) (Nat.le_of_ble_eq_true rfl) GX.no (pq ?_)
  show GW X 26 [some (.ref 40), some (.int a), some (.int b), some (.int d)] [.int (nI 0)] (hs (hs h 40 (oB 5 [.int (nI 0), .int (nI rc), .ref 41, .ref 42, .ref 43, .int (nI mc), .ref 44, .ref 45, .int tch, .int frs, .ref 46, .ref 47, .int len, .ref 48, .ref 49, .ref 50, .ref 51, .ref 56])) 40 (oB 5 [.int (nI 1), .int (nI rc), .ref 41, .ref 42, .ref 43, .int (nI mc), .ref 44, .ref 45, .int tch, .int frs, .ref 46, .ref 47, .int len, .ref 48, .ref 49, .ref 50, .ref 51, .ref 56])) n 0 0
  refine g_cg rfl hs_hs ?_
  refine g_ireturn hX hr dX5_put_26 (Nat.le_refl _) (Nat.le_refl _)  ?_
  exact ⟨rfl, rfl, fun j hj => (hs_ne (by omega)).trans (rfl), ⟨_, _, _, _, _, _, _, _, _, _, _, (hs_eq _ _ _), ((hs_ne (by omega)).trans (mco)), ((hs_ne (by omega)).trans (mdg)), ((hs_ne (by omega)).trans (mrw)), ((hs_ne (by omega)).trans (mgo)), ((hs_ne (by omega)).trans (mwe)), ((hs_ne (by omega)).trans (a0)), ((hs_ne (by omega)).trans (avt)), ((hs_ne (by omega)).trans (ati)), ((hs_ne (by omega)).trans (afa)), ((hs_ne (by omega)).trans (ast))⟩⟩
set_option maxRecDepth 20000 in
theorem kX5_put_r {l : Launch} {K : gw_K} (hst : l.stackTraces = false) {n : Nat} {h : gw_H} {rc mc : Nat} {thr tch frs len dy ady : Int32} {mn : Nat → Nat} {wd sk ws cs co dg rw_ go we vt ti fa st avt ati afa ast : Nat → Int32} {a b : Nat} {d : Int32} (m0 : h 40 = (oB 5 [.int thr, .int (nI rc), .ref 41, .ref 42, .ref 43, .int (nI mc), .ref 44, .ref 45, .int tch, .int frs, .ref 46, .ref 47, .int len, .ref 48, .ref 49, .ref 50, .ref 51, .ref 56])) (mwd : h 41 = (aI 20 wd)) (msk : h 42 = (aI 20 sk)) (mws : h 43 = (aI 18 ws)) (mmn : h 44 = (aI 5 (fun k => nI (mn k)))) (mcs : h 45 = (aI 60 cs)) (mco : h 46 = (aI 201 co)) (mdg : h 47 = (aI 201 dg)) (mrw : h 48 = (aI 6 rw_)) (mgo : h 49 = (aI 6 go)) (mwe : h 50 = (aI 6 we)) (s0 : h 51 = (oB 4 [.int dy, .ref (51 + 1), .ref (51 + 2), .ref (51 + 3), .ref (51 + 4), .ref 40])) (svt : h (51 + 1) = (aI 20 vt)) (sti : h (51 + 2) = (aI 20 ti)) (sfa : h (51 + 3) = (aI 20 fa)) (sst : h (51 + 4) = (aI 20 st)) (a0 : h 56 = (oB 4 [.int ady, .ref (56 + 1), .ref (56 + 2), .ref (56 + 3), .ref (56 + 4), .ref 40])) (avt : h (56 + 1) = (aI 20 avt)) (ati : h (56 + 2) = (aI 20 ati)) (afa : h (56 + 3) = (aI 20 afa)) (ast : h (56 + 4) = (aI 20 ast)) (hn62 : 62 ≤ n) (hrc : rc ≤ 20) (ha : a < 3) (hb : b < 6) (hz : d < 0 ∨ nI rc ≤ d) : Ctr l K mX5_put [.ref 40, .int (nI a), .int (nI b), .int d] h n 0 0 (PM (some (.int (nI 0))) h n (nI 1) rc mc tch frs) (PX0) := by
  refine Ctr.of hst pn_X5_put (Nat.le_of_ble_eq_true rfl) (fun X hX hr hE => ?_)
  have hX : FX l K X cX5_put RX5 2 43 0 0 := hX
  show GW X 0 [some (.ref 40), some (.int (nI a)), some (.int (nI b)), some (.int d)] [] h n 0 0
  refine g_aload_n hX dX5_put_0 rfl rfl ?_
  refine g_iconst (v := (nI 0)) hX dX5_put_1 (by decide) ?_
  refine g_putI hX dX5_put_2 fl_X5_52 (m0) (Nat.le_of_ble_eq_true rfl) ?_
  show GW X 5 [some (.ref 40), some (.int (nI a)), some (.int (nI b)), some (.int d)] [] (hs h 40 (oB 5 [.int (nI 0), .int (nI rc), .ref 41, .ref 42, .ref 43, .int (nI mc), .ref 44, .ref 45, .int tch, .int frs, .ref 46, .ref 47, .int len, .ref 48, .ref 49, .ref 50, .ref 51, .ref 56])) n 0 0
  refine g_iload_n hX dX5_put_5 rfl rfl ?_
  refine g_iload_n hX dX5_put_6 rfl rfl ?_
  refine g_callS (As := [.int (nI a), .int (nI b)]) hX dX5_put_7 cb_X5_isSeat ml_X5_106 st_X5_isSeat rfl rfl (kX5_isSeat hst ha hb) (Nat.le_of_ble_eq_true rfl) (Nat.le_of_ble_eq_true rfl) (by omega) (by omega) (Nat.le_of_ble_eq_true rfl) GX.no (pq ?_)
  show GW X 10 [some (.ref 40), some (.int (nI a)), some (.int (nI b)), some (.int d)] [.int (nI 1)] (hs h 40 (oB 5 [.int (nI 0), .int (nI rc), .ref 41, .ref 42, .ref 43, .int (nI mc), .ref 44, .ref 45, .int tch, .int frs, .ref 46, .ref 47, .int len, .ref 48, .ref 49, .ref 50, .ref 51, .ref 56])) n 0 0
  refine g_if_eq (tgt := 21) hX dX5_put_10 (by decide) (fun c => absurd c (by decide)) (fun _ => ?_)
  refine g_aload_n hX dX5_put_13 rfl rfl ?_
  refine g_iload_n hX dX5_put_14 rfl rfl ?_
  refine g_callV (As := [.int d]) hX dX5_put_15 cb_X5_isRinger ml_X5_94 im_X5_isRinger se_X5_isRinger rfl rfl (hs_eq _ _ _) ⟨_, rfl, rfl⟩ (kX5_isRinger_x hst (hs_eq _ _ _) (hz) (by omega)) (Nat.le_of_ble_eq_true rfl) (Nat.le_of_ble_eq_true rfl) (by omega) (by omega) (Nat.le_of_ble_eq_true rfl) GX.no (pq ?_)
  show GW X 18 [some (.ref 40), some (.int (nI a)), some (.int (nI b)), some (.int d)] [.int (nI 0)] (hs h 40 (oB 5 [.int (nI 0), .int (nI rc), .ref 41, .ref 42, .ref 43, .int (nI mc), .ref 44, .ref 45, .int tch, .int frs, .ref 46, .ref 47, .int len, .ref 48, .ref 49, .ref 50, .ref 51, .ref 56])) n 0 0
  refine g_if_ne (tgt := 27) hX dX5_put_18 (by decide) (fun c => absurd c (by decide)) (fun _ => ?_)
  refine g_aload_n hX dX5_put_21 rfl rfl ?_
  refine g_iconst (v := (nI 1)) hX dX5_put_22 (by decide) ?_
  refine g_callV (As := [.int (nI 1)]) hX dX5_put_23 cb_X5_no ml_X5_84 im_X5_no se_X5_no rfl rfl (hs_eq _ _ _) ⟨_, rfl, rfl⟩ (kX5_no hst (hs_eq _ _ _) ) (Nat.le_of_ble_eq_true rfl) (Nat.le_of_ble_eq_true rfl) (by omega) (by omega) (Nat.le_of_ble_eq_true rfl) GX.no (pq ?_)
  show GW X 26 [some (.ref 40), some (.int (nI a)), some (.int (nI b)), some (.int d)] [.int (nI 0)] (hs (hs h 40 (oB 5 [.int (nI 0), .int (nI rc), .ref 41, .ref 42, .ref 43, .int (nI mc), .ref 44, .ref 45, .int tch, .int frs, .ref 46, .ref 47, .int len, .ref 48, .ref 49, .ref 50, .ref 51, .ref 56])) 40 (oB 5 [.int (nI 1), .int (nI rc), .ref 41, .ref 42, .ref 43, .int (nI mc), .ref 44, .ref 45, .int tch, .int frs, .ref 46, .ref 47, .int len, .ref 48, .ref 49, .ref 50, .ref 51, .ref 56])) n 0 0
  refine g_cg rfl hs_hs ?_
  refine g_ireturn hX hr dX5_put_26 (Nat.le_refl _) (Nat.le_refl _)  ?_
  exact ⟨rfl, rfl, fun j hj => (hs_ne (by omega)).trans (rfl), ⟨_, _, _, _, _, _, _, _, _, _, _, (hs_eq _ _ _), ((hs_ne (by omega)).trans (mco)), ((hs_ne (by omega)).trans (mdg)), ((hs_ne (by omega)).trans (mrw)), ((hs_ne (by omega)).trans (mgo)), ((hs_ne (by omega)).trans (mwe)), ((hs_ne (by omega)).trans (a0)), ((hs_ne (by omega)).trans (avt)), ((hs_ne (by omega)).trans (ati)), ((hs_ne (by omega)).trans (afa)), ((hs_ne (by omega)).trans (ast))⟩⟩
set_option maxRecDepth 20000 in
theorem kX5_put_f {l : Launch} {K : gw_K} (hst : l.stackTraces = false) {n : Nat} {h : gw_H} {rc mc : Nat} {thr tch frs len dy ady : Int32} {mn : Nat → Nat} {wd sk ws cs co dg rw_ go we vt ti fa st avt ati afa ast : Nat → Int32} {a b d : Nat} (m0 : h 40 = (oB 5 [.int thr, .int (nI rc), .ref 41, .ref 42, .ref 43, .int (nI mc), .ref 44, .ref 45, .int tch, .int frs, .ref 46, .ref 47, .int len, .ref 48, .ref 49, .ref 50, .ref 51, .ref 56])) (mwd : h 41 = (aI 20 wd)) (msk : h 42 = (aI 20 sk)) (mws : h 43 = (aI 18 ws)) (mmn : h 44 = (aI 5 (fun k => nI (mn k)))) (mcs : h 45 = (aI 60 cs)) (mco : h 46 = (aI 201 co)) (mdg : h 47 = (aI 201 dg)) (mrw : h 48 = (aI 6 rw_)) (mgo : h 49 = (aI 6 go)) (mwe : h 50 = (aI 6 we)) (s0 : h 51 = (oB 4 [.int dy, .ref (51 + 1), .ref (51 + 2), .ref (51 + 3), .ref (51 + 4), .ref 40])) (svt : h (51 + 1) = (aI 20 vt)) (sti : h (51 + 2) = (aI 20 ti)) (sfa : h (51 + 3) = (aI 20 fa)) (sst : h (51 + 4) = (aI 20 st)) (a0 : h 56 = (oB 4 [.int ady, .ref (56 + 1), .ref (56 + 2), .ref (56 + 3), .ref (56 + 4), .ref 40])) (avt : h (56 + 1) = (aI 20 avt)) (ati : h (56 + 2) = (aI 20 ati)) (afa : h (56 + 3) = (aI 20 afa)) (ast : h (56 + 4) = (aI 20 ast)) (hn62 : 62 ≤ n) (hrc : rc ≤ 20) (ha : a < 3) (hb : b < 6) (hd : d < rc) (hz : ¬ (atI st rc (nI (6 * a + b)) = -1 ∧ st d = -1)) : Ctr l K mX5_put [.ref 40, .int (nI a), .int (nI b), .int (nI d)] h n 0 0 (PM (some (.int (nI 0))) h n (nI 2) rc mc tch frs) (PX0) := by
  refine Ctr.of hst pn_X5_put (Nat.le_of_ble_eq_true rfl) (fun X hX hr hE => ?_)
  have hX : FX l K X cX5_put RX5 2 43 0 0 := hX
  show GW X 0 [some (.ref 40), some (.int (nI a)), some (.int (nI b)), some (.int (nI d))] [] h n 0 0
  refine g_aload_n hX dX5_put_0 rfl rfl ?_
  refine g_iconst (v := (nI 0)) hX dX5_put_1 (by decide) ?_
  refine g_putI hX dX5_put_2 fl_X5_52 (m0) (Nat.le_of_ble_eq_true rfl) ?_
  show GW X 5 [some (.ref 40), some (.int (nI a)), some (.int (nI b)), some (.int (nI d))] [] (hs h 40 (oB 5 [.int (nI 0), .int (nI rc), .ref 41, .ref 42, .ref 43, .int (nI mc), .ref 44, .ref 45, .int tch, .int frs, .ref 46, .ref 47, .int len, .ref 48, .ref 49, .ref 50, .ref 51, .ref 56])) n 0 0
  refine g_iload_n hX dX5_put_5 rfl rfl ?_
  refine g_iload_n hX dX5_put_6 rfl rfl ?_
  refine g_callS (As := [.int (nI a), .int (nI b)]) hX dX5_put_7 cb_X5_isSeat ml_X5_106 st_X5_isSeat rfl rfl (kX5_isSeat hst ha hb) (Nat.le_of_ble_eq_true rfl) (Nat.le_of_ble_eq_true rfl) (by omega) (by omega) (Nat.le_of_ble_eq_true rfl) GX.no (pq ?_)
  show GW X 10 [some (.ref 40), some (.int (nI a)), some (.int (nI b)), some (.int (nI d))] [.int (nI 1)] (hs h 40 (oB 5 [.int (nI 0), .int (nI rc), .ref 41, .ref 42, .ref 43, .int (nI mc), .ref 44, .ref 45, .int tch, .int frs, .ref 46, .ref 47, .int len, .ref 48, .ref 49, .ref 50, .ref 51, .ref 56])) n 0 0
  refine g_if_eq (tgt := 21) hX dX5_put_10 (by decide) (fun c => absurd c (by decide)) (fun _ => ?_)
  refine g_aload_n hX dX5_put_13 rfl rfl ?_
  refine g_iload_n hX dX5_put_14 rfl rfl ?_
  refine g_callV (As := [.int (nI d)]) hX dX5_put_15 cb_X5_isRinger ml_X5_94 im_X5_isRinger se_X5_isRinger rfl rfl (hs_eq _ _ _) ⟨_, rfl, rfl⟩ (kX5_isRinger hst (hs_eq _ _ _) (hd) (by omega)) (Nat.le_of_ble_eq_true rfl) (Nat.le_of_ble_eq_true rfl) (by omega) (by omega) (Nat.le_of_ble_eq_true rfl) GX.no (pq ?_)
  show GW X 18 [some (.ref 40), some (.int (nI a)), some (.int (nI b)), some (.int (nI d))] [.int (nI 1)] (hs h 40 (oB 5 [.int (nI 0), .int (nI rc), .ref 41, .ref 42, .ref 43, .int (nI mc), .ref 44, .ref 45, .int tch, .int frs, .ref 46, .ref 47, .int len, .ref 48, .ref 49, .ref 50, .ref 51, .ref 56])) n 0 0
  refine g_if_ne (tgt := 27) hX dX5_put_18 (by decide) (fun _ => ?_) (fun c => absurd c (by decide))
  refine g_aload_n hX dX5_put_27 rfl rfl ?_
  refine g_getf hX dX5_put_28 fl_X5_45 (hs_eq _ _ _) rfl ?_
  refine g_bipush (v := (nI 6)) hX dX5_put_31 (by decide) ?_
  refine g_iload_n hX dX5_put_33 rfl rfl ?_
  refine g_imulN hX dX5_put_34 ?_
  refine g_iload_n hX dX5_put_35 rfl rfl ?_
  refine g_iaddN hX dX5_put_36 ?_
  refine g_callV (As := [.int (nI ((6 * a) + b))]) hX dX5_put_37 cb_X4_ringerOf ml_X5_117 im_X4_ringerOf se_X4_ringerOf rfl rfl ((hs_ne (by omega)).trans (s0)) ⟨_, rfl, rfl⟩ (kX4_ringerOf hst (hs_eq _ _ _) ((hs_ne (by omega)).trans (s0)) ((hs_ne (by omega)).trans (sst)) (by omega)) (Nat.le_of_ble_eq_true rfl) (Nat.le_of_ble_eq_true rfl) (by omega) (by omega) (Nat.le_of_ble_eq_true rfl) GX.no (pq ?_)
  show GW X 40 [some (.ref 40), some (.int (nI a)), some (.int (nI b)), some (.int (nI d))] [.int (atI st rc (nI ((6 * a) + b)))] (hs h 40 (oB 5 [.int (nI 0), .int (nI rc), .ref 41, .ref 42, .ref 43, .int (nI mc), .ref 44, .ref 45, .int tch, .int frs, .ref 46, .ref 47, .int len, .ref 48, .ref 49, .ref 50, .ref 51, .ref 56])) n 0 0
  refine g_iconst (v := (-1)) hX dX5_put_40 (by decide) ?_
  refine g_icmp_ne (tgt := 57) hX dX5_put_41 (by decide) (fun c1 => ?_) (fun c1 => ?_)
  · refine g_aload_n hX dX5_put_57 rfl rfl ?_
    refine g_iconst (v := (nI 2)) hX dX5_put_58 (by decide) ?_
    refine g_callV (As := [.int (nI 2)]) hX dX5_put_59 cb_X5_no ml_X5_84 im_X5_no se_X5_no rfl rfl (hs_eq _ _ _) ⟨_, rfl, rfl⟩ (kX5_no hst (hs_eq _ _ _) ) (Nat.le_of_ble_eq_true rfl) (Nat.le_of_ble_eq_true rfl) (by omega) (by omega) (Nat.le_of_ble_eq_true rfl) GX.no (pq ?_)
    show GW X 62 [some (.ref 40), some (.int (nI a)), some (.int (nI b)), some (.int (nI d))] [.int (nI 0)] (hs (hs h 40 (oB 5 [.int (nI 0), .int (nI rc), .ref 41, .ref 42, .ref 43, .int (nI mc), .ref 44, .ref 45, .int tch, .int frs, .ref 46, .ref 47, .int len, .ref 48, .ref 49, .ref 50, .ref 51, .ref 56])) 40 (oB 5 [.int (nI 2), .int (nI rc), .ref 41, .ref 42, .ref 43, .int (nI mc), .ref 44, .ref 45, .int tch, .int frs, .ref 46, .ref 47, .int len, .ref 48, .ref 49, .ref 50, .ref 51, .ref 56])) n 0 0
    refine g_cg rfl hs_hs ?_
    refine g_ireturn hX hr dX5_put_62 (Nat.le_refl _) (Nat.le_refl _)  ?_
    exact ⟨rfl, rfl, fun j hj => (hs_ne (by omega)).trans (rfl), ⟨_, _, _, _, _, _, _, _, _, _, _, (hs_eq _ _ _), ((hs_ne (by omega)).trans (mco)), ((hs_ne (by omega)).trans (mdg)), ((hs_ne (by omega)).trans (mrw)), ((hs_ne (by omega)).trans (mgo)), ((hs_ne (by omega)).trans (mwe)), ((hs_ne (by omega)).trans (a0)), ((hs_ne (by omega)).trans (avt)), ((hs_ne (by omega)).trans (ati)), ((hs_ne (by omega)).trans (afa)), ((hs_ne (by omega)).trans (ast))⟩⟩
  · refine g_aload_n hX dX5_put_44 rfl rfl ?_
    refine g_getf hX dX5_put_45 fl_X5_45 (hs_eq _ _ _) rfl ?_
    refine g_getf hX dX5_put_48 fl_X5_91 ((hs_ne (by omega)).trans (s0)) rfl ?_
    refine g_iload_n hX dX5_put_51 rfl rfl ?_
    refine g_iaload hX dX5_put_52 ((hs_ne (by omega)).trans (sst)) (d) (by omega) rfl (by omega) ?_
    refine g_iconst (v := (-1)) hX dX5_put_53 (by decide) ?_
    refine g_icmp_eq (tgt := 63) hX dX5_put_54 (by decide) (fun c2 => ?_) (fun c2 => ?_)
    · exact absurd (And.intro (by simpa using c1) c2) hz
    · refine g_aload_n hX dX5_put_57 rfl rfl ?_
      refine g_iconst (v := (nI 2)) hX dX5_put_58 (by decide) ?_
      refine g_callV (As := [.int (nI 2)]) hX dX5_put_59 cb_X5_no ml_X5_84 im_X5_no se_X5_no rfl rfl (hs_eq _ _ _) ⟨_, rfl, rfl⟩ (kX5_no hst (hs_eq _ _ _) ) (Nat.le_of_ble_eq_true rfl) (Nat.le_of_ble_eq_true rfl) (by omega) (by omega) (Nat.le_of_ble_eq_true rfl) GX.no (pq ?_)
      show GW X 62 [some (.ref 40), some (.int (nI a)), some (.int (nI b)), some (.int (nI d))] [.int (nI 0)] (hs (hs h 40 (oB 5 [.int (nI 0), .int (nI rc), .ref 41, .ref 42, .ref 43, .int (nI mc), .ref 44, .ref 45, .int tch, .int frs, .ref 46, .ref 47, .int len, .ref 48, .ref 49, .ref 50, .ref 51, .ref 56])) 40 (oB 5 [.int (nI 2), .int (nI rc), .ref 41, .ref 42, .ref 43, .int (nI mc), .ref 44, .ref 45, .int tch, .int frs, .ref 46, .ref 47, .int len, .ref 48, .ref 49, .ref 50, .ref 51, .ref 56])) n 0 0
      refine g_cg rfl hs_hs ?_
      refine g_ireturn hX hr dX5_put_62 (Nat.le_refl _) (Nat.le_refl _)  ?_
      exact ⟨rfl, rfl, fun j hj => (hs_ne (by omega)).trans (rfl), ⟨_, _, _, _, _, _, _, _, _, _, _, (hs_eq _ _ _), ((hs_ne (by omega)).trans (mco)), ((hs_ne (by omega)).trans (mdg)), ((hs_ne (by omega)).trans (mrw)), ((hs_ne (by omega)).trans (mgo)), ((hs_ne (by omega)).trans (mwe)), ((hs_ne (by omega)).trans (a0)), ((hs_ne (by omega)).trans (avt)), ((hs_ne (by omega)).trans (ati)), ((hs_ne (by omega)).trans (afa)), ((hs_ne (by omega)).trans (ast))⟩⟩
set_option maxRecDepth 20000 in
theorem kX5_put {l : Launch} {K : gw_K} (hst : l.stackTraces = false) {n : Nat} {h : gw_H} {rc mc : Nat} {thr tch frs len dy ady : Int32} {mn : Nat → Nat} {wd sk ws cs co dg rw_ go we vt ti fa st avt ati afa ast : Nat → Int32} {a b d : Nat} (m0 : h 40 = (oB 5 [.int thr, .int (nI rc), .ref 41, .ref 42, .ref 43, .int (nI mc), .ref 44, .ref 45, .int tch, .int frs, .ref 46, .ref 47, .int len, .ref 48, .ref 49, .ref 50, .ref 51, .ref 56])) (mwd : h 41 = (aI 20 wd)) (msk : h 42 = (aI 20 sk)) (mws : h 43 = (aI 18 ws)) (mmn : h 44 = (aI 5 (fun k => nI (mn k)))) (mcs : h 45 = (aI 60 cs)) (mco : h 46 = (aI 201 co)) (mdg : h 47 = (aI 201 dg)) (mrw : h 48 = (aI 6 rw_)) (mgo : h 49 = (aI 6 go)) (mwe : h 50 = (aI 6 we)) (s0 : h 51 = (oB 4 [.int dy, .ref (51 + 1), .ref (51 + 2), .ref (51 + 3), .ref (51 + 4), .ref 40])) (svt : h (51 + 1) = (aI 20 vt)) (sti : h (51 + 2) = (aI 20 ti)) (sfa : h (51 + 3) = (aI 20 fa)) (sst : h (51 + 4) = (aI 20 st)) (a0 : h 56 = (oB 4 [.int ady, .ref (56 + 1), .ref (56 + 2), .ref (56 + 3), .ref (56 + 4), .ref 40])) (avt : h (56 + 1) = (aI 20 avt)) (ati : h (56 + 2) = (aI 20 ati)) (afa : h (56 + 3) = (aI 20 afa)) (ast : h (56 + 4) = (aI 20 ast)) (hn62 : 62 ≤ n) (hrc : rc ≤ 20) (ha : a < 3) (hb : b < 6) (hd : d < rc) (hz : atI st rc (nI (6 * a + b)) = -1 ∧ st d = -1) : Ctr l K mX5_put [.ref 40, .int (nI a), .int (nI b), .int (nI d)] h n 0 0 (PM (some (.int (ws (6 * a + b)))) (hs h (51 + 4) (aI 20 (upd st d (nI (6 * a + b))))) n (nI 0) rc mc tch frs) (PX0) := by
  refine Ctr.of hst pn_X5_put (Nat.le_of_ble_eq_true rfl) (fun X hX hr hE => ?_)
  have hX : FX l K X cX5_put RX5 2 43 0 0 := hX
  show GW X 0 [some (.ref 40), some (.int (nI a)), some (.int (nI b)), some (.int (nI d))] [] h n 0 0
  refine g_aload_n hX dX5_put_0 rfl rfl ?_
  refine g_iconst (v := (nI 0)) hX dX5_put_1 (by decide) ?_
  refine g_putI hX dX5_put_2 fl_X5_52 (m0) (Nat.le_of_ble_eq_true rfl) ?_
  show GW X 5 [some (.ref 40), some (.int (nI a)), some (.int (nI b)), some (.int (nI d))] [] (hs h 40 (oB 5 [.int (nI 0), .int (nI rc), .ref 41, .ref 42, .ref 43, .int (nI mc), .ref 44, .ref 45, .int tch, .int frs, .ref 46, .ref 47, .int len, .ref 48, .ref 49, .ref 50, .ref 51, .ref 56])) n 0 0
  refine g_iload_n hX dX5_put_5 rfl rfl ?_
  refine g_iload_n hX dX5_put_6 rfl rfl ?_
  refine g_callS (As := [.int (nI a), .int (nI b)]) hX dX5_put_7 cb_X5_isSeat ml_X5_106 st_X5_isSeat rfl rfl (kX5_isSeat hst ha hb) (Nat.le_of_ble_eq_true rfl) (Nat.le_of_ble_eq_true rfl) (by omega) (by omega) (Nat.le_of_ble_eq_true rfl) GX.no (pq ?_)
  show GW X 10 [some (.ref 40), some (.int (nI a)), some (.int (nI b)), some (.int (nI d))] [.int (nI 1)] (hs h 40 (oB 5 [.int (nI 0), .int (nI rc), .ref 41, .ref 42, .ref 43, .int (nI mc), .ref 44, .ref 45, .int tch, .int frs, .ref 46, .ref 47, .int len, .ref 48, .ref 49, .ref 50, .ref 51, .ref 56])) n 0 0
  refine g_if_eq (tgt := 21) hX dX5_put_10 (by decide) (fun c => absurd c (by decide)) (fun _ => ?_)
  refine g_aload_n hX dX5_put_13 rfl rfl ?_
  refine g_iload_n hX dX5_put_14 rfl rfl ?_
  refine g_callV (As := [.int (nI d)]) hX dX5_put_15 cb_X5_isRinger ml_X5_94 im_X5_isRinger se_X5_isRinger rfl rfl (hs_eq _ _ _) ⟨_, rfl, rfl⟩ (kX5_isRinger hst (hs_eq _ _ _) (hd) (by omega)) (Nat.le_of_ble_eq_true rfl) (Nat.le_of_ble_eq_true rfl) (by omega) (by omega) (Nat.le_of_ble_eq_true rfl) GX.no (pq ?_)
  show GW X 18 [some (.ref 40), some (.int (nI a)), some (.int (nI b)), some (.int (nI d))] [.int (nI 1)] (hs h 40 (oB 5 [.int (nI 0), .int (nI rc), .ref 41, .ref 42, .ref 43, .int (nI mc), .ref 44, .ref 45, .int tch, .int frs, .ref 46, .ref 47, .int len, .ref 48, .ref 49, .ref 50, .ref 51, .ref 56])) n 0 0
  refine g_if_ne (tgt := 27) hX dX5_put_18 (by decide) (fun _ => ?_) (fun c => absurd c (by decide))
  refine g_aload_n hX dX5_put_27 rfl rfl ?_
  refine g_getf hX dX5_put_28 fl_X5_45 (hs_eq _ _ _) rfl ?_
  refine g_bipush (v := (nI 6)) hX dX5_put_31 (by decide) ?_
  refine g_iload_n hX dX5_put_33 rfl rfl ?_
  refine g_imulN hX dX5_put_34 ?_
  refine g_iload_n hX dX5_put_35 rfl rfl ?_
  refine g_iaddN hX dX5_put_36 ?_
  refine g_callV (As := [.int (nI ((6 * a) + b))]) hX dX5_put_37 cb_X4_ringerOf ml_X5_117 im_X4_ringerOf se_X4_ringerOf rfl rfl ((hs_ne (by omega)).trans (s0)) ⟨_, rfl, rfl⟩ (kX4_ringerOf hst (hs_eq _ _ _) ((hs_ne (by omega)).trans (s0)) ((hs_ne (by omega)).trans (sst)) (by omega)) (Nat.le_of_ble_eq_true rfl) (Nat.le_of_ble_eq_true rfl) (by omega) (by omega) (Nat.le_of_ble_eq_true rfl) GX.no (pq ?_)
  show GW X 40 [some (.ref 40), some (.int (nI a)), some (.int (nI b)), some (.int (nI d))] [.int (atI st rc (nI ((6 * a) + b)))] (hs h 40 (oB 5 [.int (nI 0), .int (nI rc), .ref 41, .ref 42, .ref 43, .int (nI mc), .ref 44, .ref 45, .int tch, .int frs, .ref 46, .ref 47, .int len, .ref 48, .ref 49, .ref 50, .ref 51, .ref 56])) n 0 0
  refine g_iconst (v := (-1)) hX dX5_put_40 (by decide) ?_
  refine g_icmp_ne (tgt := 57) hX dX5_put_41 (by decide) (fun c1 => ?_) (fun c1 => ?_)
  · first | exact absurd hz.1 c1 | exact absurd hz.2 c1
  · refine g_aload_n hX dX5_put_44 rfl rfl ?_
    refine g_getf hX dX5_put_45 fl_X5_45 (hs_eq _ _ _) rfl ?_
    refine g_getf hX dX5_put_48 fl_X5_91 ((hs_ne (by omega)).trans (s0)) rfl ?_
    refine g_iload_n hX dX5_put_51 rfl rfl ?_
    refine g_iaload hX dX5_put_52 ((hs_ne (by omega)).trans (sst)) (d) (by omega) rfl (by omega) ?_
    refine g_iconst (v := (-1)) hX dX5_put_53 (by decide) ?_
    refine g_icmp_eq (tgt := 63) hX dX5_put_54 (by decide) (fun c2 => ?_) (fun c2 => ?_)
    · refine g_aload_n hX dX5_put_63 rfl rfl ?_
      refine g_getf hX dX5_put_64 fl_X5_45 (hs_eq _ _ _) rfl ?_
      refine g_getf hX dX5_put_67 fl_X5_91 ((hs_ne (by omega)).trans (s0)) rfl ?_
      refine g_iload_n hX dX5_put_70 rfl rfl ?_
      refine g_bipush (v := (nI 6)) hX dX5_put_71 (by decide) ?_
      refine g_iload_n hX dX5_put_73 rfl rfl ?_
      refine g_imulN hX dX5_put_74 ?_
      refine g_iload_n hX dX5_put_75 rfl rfl ?_
      refine g_iaddN hX dX5_put_76 ?_
      refine g_iastore hX dX5_put_77 ((hs_ne (by omega)).trans (sst)) (d) (by omega) rfl (by omega) ?_
      refine g_aload_n hX dX5_put_78 rfl rfl ?_
      refine g_getf hX dX5_put_79 fl_X5_16 ((hs_ne (by omega)).trans (hs_eq _ _ _)) rfl ?_
      refine g_bipush (v := (nI 6)) hX dX5_put_82 (by decide) ?_
      refine g_iload_n hX dX5_put_84 rfl rfl ?_
      refine g_imulN hX dX5_put_85 ?_
      refine g_iload_n hX dX5_put_86 rfl rfl ?_
      refine g_iaddN hX dX5_put_87 ?_
      refine g_iaload hX dX5_put_88 ((hs_ne (by omega)).trans ((hs_ne (by omega)).trans (mws))) ((6 * a) + b) (by omega) rfl (by omega) ?_
      refine g_ireturn hX hr dX5_put_89 (Nat.le_refl _) (Nat.le_refl _)  ?_
      exact ⟨rfl, rfl, fun j hj => hs_cgj ((hs_ne (by omega)).trans (rfl)), ⟨_, _, _, _, _, _, _, _, _, _, _, ((hs_ne (by omega)).trans (hs_eq _ _ _)), ((hs_ne (by omega)).trans ((hs_ne (by omega)).trans (mco))), ((hs_ne (by omega)).trans ((hs_ne (by omega)).trans (mdg))), ((hs_ne (by omega)).trans ((hs_ne (by omega)).trans (mrw))), ((hs_ne (by omega)).trans ((hs_ne (by omega)).trans (mgo))), ((hs_ne (by omega)).trans ((hs_ne (by omega)).trans (mwe))), ((hs_ne (by omega)).trans ((hs_ne (by omega)).trans (a0))), ((hs_ne (by omega)).trans ((hs_ne (by omega)).trans (avt))), ((hs_ne (by omega)).trans ((hs_ne (by omega)).trans (ati))), ((hs_ne (by omega)).trans ((hs_ne (by omega)).trans (afa))), ((hs_ne (by omega)).trans ((hs_ne (by omega)).trans (ast)))⟩⟩
    · first | exact absurd hz.1 c2 | exact absurd hz.2 c2
set_option maxRecDepth 20000 in
theorem kX5_leave_r {l : Launch} {K : gw_K} (hst : l.stackTraces = false) {n : Nat} {h : gw_H} {rc mc : Nat} {thr tch frs len dy ady : Int32} {mn : Nat → Nat} {wd sk ws cs co dg rw_ go we vt ti fa st avt ati afa ast : Nat → Int32} {a : Int32} (m0 : h 40 = (oB 5 [.int thr, .int (nI rc), .ref 41, .ref 42, .ref 43, .int (nI mc), .ref 44, .ref 45, .int tch, .int frs, .ref 46, .ref 47, .int len, .ref 48, .ref 49, .ref 50, .ref 51, .ref 56])) (mwd : h 41 = (aI 20 wd)) (msk : h 42 = (aI 20 sk)) (mws : h 43 = (aI 18 ws)) (mmn : h 44 = (aI 5 (fun k => nI (mn k)))) (mcs : h 45 = (aI 60 cs)) (mco : h 46 = (aI 201 co)) (mdg : h 47 = (aI 201 dg)) (mrw : h 48 = (aI 6 rw_)) (mgo : h 49 = (aI 6 go)) (mwe : h 50 = (aI 6 we)) (s0 : h 51 = (oB 4 [.int dy, .ref (51 + 1), .ref (51 + 2), .ref (51 + 3), .ref (51 + 4), .ref 40])) (svt : h (51 + 1) = (aI 20 vt)) (sti : h (51 + 2) = (aI 20 ti)) (sfa : h (51 + 3) = (aI 20 fa)) (sst : h (51 + 4) = (aI 20 st)) (a0 : h 56 = (oB 4 [.int ady, .ref (56 + 1), .ref (56 + 2), .ref (56 + 3), .ref (56 + 4), .ref 40])) (avt : h (56 + 1) = (aI 20 avt)) (ati : h (56 + 2) = (aI 20 ati)) (afa : h (56 + 3) = (aI 20 afa)) (ast : h (56 + 4) = (aI 20 ast)) (hn62 : 62 ≤ n) (hrc : rc ≤ 20) (hz : a < 0 ∨ nI rc ≤ a) : Ctr l K mX5_leave [.ref 40, .int a] h n 0 0 (PM (some (.int (nI 0))) h n (nI 1) rc mc tch frs) (PX0) := by
  refine Ctr.of hst pn_X5_leave (Nat.le_of_ble_eq_true rfl) (fun X hX hr hE => ?_)
  have hX : FX l K X cX5_leave RX5 2 43 0 0 := hX
  show GW X 0 [some (.ref 40), some (.int a), none] [] h n 0 0
  refine g_aload_n hX dX5_leave_0 rfl rfl ?_
  refine g_iconst (v := (nI 0)) hX dX5_leave_1 (by decide) ?_
  refine g_putI hX dX5_leave_2 fl_X5_52 (m0) (Nat.le_of_ble_eq_true rfl) ?_
  show GW X 5 [some (.ref 40), some (.int a), none] [] (hs h 40 (oB 5 [.int (nI 0), .int (nI rc), .ref 41, .ref 42, .ref 43, .int (nI mc), .ref 44, .ref 45, .int tch, .int frs, .ref 46, .ref 47, .int len, .ref 48, .ref 49, .ref 50, .ref 51, .ref 56])) n 0 0
  refine g_aload_n hX dX5_leave_5 rfl rfl ?_
  refine g_iload_n hX dX5_leave_6 rfl rfl ?_
  refine g_callV (As := [.int a]) hX dX5_leave_7 cb_X5_isRinger ml_X5_94 im_X5_isRinger se_X5_isRinger rfl rfl (hs_eq _ _ _) ⟨_, rfl, rfl⟩ (kX5_isRinger_x hst (hs_eq _ _ _) (hz) (by omega)) (Nat.le_of_ble_eq_true rfl) (Nat.le_of_ble_eq_true rfl) (by omega) (by omega) (Nat.le_of_ble_eq_true rfl) GX.no (pq ?_)
  show GW X 10 [some (.ref 40), some (.int a), none] [.int (nI 0)] (hs h 40 (oB 5 [.int (nI 0), .int (nI rc), .ref 41, .ref 42, .ref 43, .int (nI mc), .ref 44, .ref 45, .int tch, .int frs, .ref 46, .ref 47, .int len, .ref 48, .ref 49, .ref 50, .ref 51, .ref 56])) n 0 0
  refine g_if_ne (tgt := 19) hX dX5_leave_10 (by decide) (fun c => absurd c (by decide)) (fun _ => ?_)
  refine g_aload_n hX dX5_leave_13 rfl rfl ?_
  refine g_iconst (v := (nI 1)) hX dX5_leave_14 (by decide) ?_
  refine g_callV (As := [.int (nI 1)]) hX dX5_leave_15 cb_X5_no ml_X5_84 im_X5_no se_X5_no rfl rfl (hs_eq _ _ _) ⟨_, rfl, rfl⟩ (kX5_no hst (hs_eq _ _ _) ) (Nat.le_of_ble_eq_true rfl) (Nat.le_of_ble_eq_true rfl) (by omega) (by omega) (Nat.le_of_ble_eq_true rfl) GX.no (pq ?_)
  show GW X 18 [some (.ref 40), some (.int a), none] [.int (nI 0)] (hs (hs h 40 (oB 5 [.int (nI 0), .int (nI rc), .ref 41, .ref 42, .ref 43, .int (nI mc), .ref 44, .ref 45, .int tch, .int frs, .ref 46, .ref 47, .int len, .ref 48, .ref 49, .ref 50, .ref 51, .ref 56])) 40 (oB 5 [.int (nI 1), .int (nI rc), .ref 41, .ref 42, .ref 43, .int (nI mc), .ref 44, .ref 45, .int tch, .int frs, .ref 46, .ref 47, .int len, .ref 48, .ref 49, .ref 50, .ref 51, .ref 56])) n 0 0
  refine g_cg rfl hs_hs ?_
  refine g_ireturn hX hr dX5_leave_18 (Nat.le_refl _) (Nat.le_refl _)  ?_
  exact ⟨rfl, rfl, fun j hj => (hs_ne (by omega)).trans (rfl), ⟨_, _, _, _, _, _, _, _, _, _, _, (hs_eq _ _ _), ((hs_ne (by omega)).trans (mco)), ((hs_ne (by omega)).trans (mdg)), ((hs_ne (by omega)).trans (mrw)), ((hs_ne (by omega)).trans (mgo)), ((hs_ne (by omega)).trans (mwe)), ((hs_ne (by omega)).trans (a0)), ((hs_ne (by omega)).trans (avt)), ((hs_ne (by omega)).trans (ati)), ((hs_ne (by omega)).trans (afa)), ((hs_ne (by omega)).trans (ast))⟩⟩
set_option maxRecDepth 20000 in
theorem kX5_leave_f {l : Launch} {K : gw_K} (hst : l.stackTraces = false) {n : Nat} {h : gw_H} {rc mc : Nat} {thr tch frs len dy ady : Int32} {mn : Nat → Nat} {wd sk ws cs co dg rw_ go we vt ti fa st avt ati afa ast : Nat → Int32} {a : Nat} (m0 : h 40 = (oB 5 [.int thr, .int (nI rc), .ref 41, .ref 42, .ref 43, .int (nI mc), .ref 44, .ref 45, .int tch, .int frs, .ref 46, .ref 47, .int len, .ref 48, .ref 49, .ref 50, .ref 51, .ref 56])) (mwd : h 41 = (aI 20 wd)) (msk : h 42 = (aI 20 sk)) (mws : h 43 = (aI 18 ws)) (mmn : h 44 = (aI 5 (fun k => nI (mn k)))) (mcs : h 45 = (aI 60 cs)) (mco : h 46 = (aI 201 co)) (mdg : h 47 = (aI 201 dg)) (mrw : h 48 = (aI 6 rw_)) (mgo : h 49 = (aI 6 go)) (mwe : h 50 = (aI 6 we)) (s0 : h 51 = (oB 4 [.int dy, .ref (51 + 1), .ref (51 + 2), .ref (51 + 3), .ref (51 + 4), .ref 40])) (svt : h (51 + 1) = (aI 20 vt)) (sti : h (51 + 2) = (aI 20 ti)) (sfa : h (51 + 3) = (aI 20 fa)) (sst : h (51 + 4) = (aI 20 st)) (a0 : h 56 = (oB 4 [.int ady, .ref (56 + 1), .ref (56 + 2), .ref (56 + 3), .ref (56 + 4), .ref 40])) (avt : h (56 + 1) = (aI 20 avt)) (ati : h (56 + 2) = (aI 20 ati)) (afa : h (56 + 3) = (aI 20 afa)) (ast : h (56 + 4) = (aI 20 ast)) (hn62 : 62 ≤ n) (hrc : rc ≤ 20) (ha : a < rc) (hz : st a = -1) : Ctr l K mX5_leave [.ref 40, .int (nI a)] h n 0 0 (PM (some (.int (nI 0))) h n (nI 2) rc mc tch frs) (PX0) := by
  refine Ctr.of hst pn_X5_leave (Nat.le_of_ble_eq_true rfl) (fun X hX hr hE => ?_)
  have hX : FX l K X cX5_leave RX5 2 43 0 0 := hX
  show GW X 0 [some (.ref 40), some (.int (nI a)), none] [] h n 0 0
  refine g_aload_n hX dX5_leave_0 rfl rfl ?_
  refine g_iconst (v := (nI 0)) hX dX5_leave_1 (by decide) ?_
  refine g_putI hX dX5_leave_2 fl_X5_52 (m0) (Nat.le_of_ble_eq_true rfl) ?_
  show GW X 5 [some (.ref 40), some (.int (nI a)), none] [] (hs h 40 (oB 5 [.int (nI 0), .int (nI rc), .ref 41, .ref 42, .ref 43, .int (nI mc), .ref 44, .ref 45, .int tch, .int frs, .ref 46, .ref 47, .int len, .ref 48, .ref 49, .ref 50, .ref 51, .ref 56])) n 0 0
  refine g_aload_n hX dX5_leave_5 rfl rfl ?_
  refine g_iload_n hX dX5_leave_6 rfl rfl ?_
  refine g_callV (As := [.int (nI a)]) hX dX5_leave_7 cb_X5_isRinger ml_X5_94 im_X5_isRinger se_X5_isRinger rfl rfl (hs_eq _ _ _) ⟨_, rfl, rfl⟩ (kX5_isRinger hst (hs_eq _ _ _) (ha) (by omega)) (Nat.le_of_ble_eq_true rfl) (Nat.le_of_ble_eq_true rfl) (by omega) (by omega) (Nat.le_of_ble_eq_true rfl) GX.no (pq ?_)
  show GW X 10 [some (.ref 40), some (.int (nI a)), none] [.int (nI 1)] (hs h 40 (oB 5 [.int (nI 0), .int (nI rc), .ref 41, .ref 42, .ref 43, .int (nI mc), .ref 44, .ref 45, .int tch, .int frs, .ref 46, .ref 47, .int len, .ref 48, .ref 49, .ref 50, .ref 51, .ref 56])) n 0 0
  refine g_if_ne (tgt := 19) hX dX5_leave_10 (by decide) (fun _ => ?_) (fun c => absurd c (by decide))
  refine g_aload_n hX dX5_leave_19 rfl rfl ?_
  refine g_getf hX dX5_leave_20 fl_X5_45 (hs_eq _ _ _) rfl ?_
  refine g_getf hX dX5_leave_23 fl_X5_91 ((hs_ne (by omega)).trans (s0)) rfl ?_
  refine g_iload_n hX dX5_leave_26 rfl rfl ?_
  refine g_iaload hX dX5_leave_27 ((hs_ne (by omega)).trans (sst)) (a) (by omega) rfl (by omega) ?_
  refine g_istore_n (i := 2) hX dX5_leave_28 rfl (Nat.le_of_ble_eq_true rfl) rfl ?_
  refine g_iload_n hX dX5_leave_29 rfl rfl ?_
  refine g_iconst (v := (-1)) hX dX5_leave_30 (by decide) ?_
  refine g_icmp_ne (tgt := 40) hX dX5_leave_31 (by decide) (fun c1 => ?_) (fun c1 => ?_)
  · exact absurd hz c1
  · refine g_aload_n hX dX5_leave_34 rfl rfl ?_
    refine g_iconst (v := (nI 2)) hX dX5_leave_35 (by decide) ?_
    refine g_callV (As := [.int (nI 2)]) hX dX5_leave_36 cb_X5_no ml_X5_84 im_X5_no se_X5_no rfl rfl (hs_eq _ _ _) ⟨_, rfl, rfl⟩ (kX5_no hst (hs_eq _ _ _) ) (Nat.le_of_ble_eq_true rfl) (Nat.le_of_ble_eq_true rfl) (by omega) (by omega) (Nat.le_of_ble_eq_true rfl) GX.no (pq ?_)
    show GW X 39 [some (.ref 40), some (.int (nI a)), some (.int (st a))] [.int (nI 0)] (hs (hs h 40 (oB 5 [.int (nI 0), .int (nI rc), .ref 41, .ref 42, .ref 43, .int (nI mc), .ref 44, .ref 45, .int tch, .int frs, .ref 46, .ref 47, .int len, .ref 48, .ref 49, .ref 50, .ref 51, .ref 56])) 40 (oB 5 [.int (nI 2), .int (nI rc), .ref 41, .ref 42, .ref 43, .int (nI mc), .ref 44, .ref 45, .int tch, .int frs, .ref 46, .ref 47, .int len, .ref 48, .ref 49, .ref 50, .ref 51, .ref 56])) n 0 0
    refine g_cg rfl hs_hs ?_
    refine g_ireturn hX hr dX5_leave_39 (Nat.le_refl _) (Nat.le_refl _)  ?_
    exact ⟨rfl, rfl, fun j hj => (hs_ne (by omega)).trans (rfl), ⟨_, _, _, _, _, _, _, _, _, _, _, (hs_eq _ _ _), ((hs_ne (by omega)).trans (mco)), ((hs_ne (by omega)).trans (mdg)), ((hs_ne (by omega)).trans (mrw)), ((hs_ne (by omega)).trans (mgo)), ((hs_ne (by omega)).trans (mwe)), ((hs_ne (by omega)).trans (a0)), ((hs_ne (by omega)).trans (avt)), ((hs_ne (by omega)).trans (ati)), ((hs_ne (by omega)).trans (afa)), ((hs_ne (by omega)).trans (ast))⟩⟩
set_option maxRecDepth 20000 in
theorem kX5_leave {l : Launch} {K : gw_K} (hst : l.stackTraces = false) {n : Nat} {h : gw_H} {rc mc : Nat} {thr tch frs len dy ady : Int32} {mn : Nat → Nat} {wd sk ws cs co dg rw_ go we vt ti fa st avt ati afa ast : Nat → Int32} {a : Nat} (m0 : h 40 = (oB 5 [.int thr, .int (nI rc), .ref 41, .ref 42, .ref 43, .int (nI mc), .ref 44, .ref 45, .int tch, .int frs, .ref 46, .ref 47, .int len, .ref 48, .ref 49, .ref 50, .ref 51, .ref 56])) (mwd : h 41 = (aI 20 wd)) (msk : h 42 = (aI 20 sk)) (mws : h 43 = (aI 18 ws)) (mmn : h 44 = (aI 5 (fun k => nI (mn k)))) (mcs : h 45 = (aI 60 cs)) (mco : h 46 = (aI 201 co)) (mdg : h 47 = (aI 201 dg)) (mrw : h 48 = (aI 6 rw_)) (mgo : h 49 = (aI 6 go)) (mwe : h 50 = (aI 6 we)) (s0 : h 51 = (oB 4 [.int dy, .ref (51 + 1), .ref (51 + 2), .ref (51 + 3), .ref (51 + 4), .ref 40])) (svt : h (51 + 1) = (aI 20 vt)) (sti : h (51 + 2) = (aI 20 ti)) (sfa : h (51 + 3) = (aI 20 fa)) (sst : h (51 + 4) = (aI 20 st)) (a0 : h 56 = (oB 4 [.int ady, .ref (56 + 1), .ref (56 + 2), .ref (56 + 3), .ref (56 + 4), .ref 40])) (avt : h (56 + 1) = (aI 20 avt)) (ati : h (56 + 2) = (aI 20 ati)) (afa : h (56 + 3) = (aI 20 afa)) (ast : h (56 + 4) = (aI 20 ast)) (hn62 : 62 ≤ n) (hrc : rc ≤ 20) (ha : a < rc) (hz : ¬ st a = -1) : Ctr l K mX5_leave [.ref 40, .int (nI a)] h n 0 0 (PM (some (.int (nI 10 * bandI (st a) + bellI (st a)))) (hs h (51 + 4) (aI 20 (upd st a (-1)))) n (nI 0) rc mc tch frs) (PX0) := by
  refine Ctr.of hst pn_X5_leave (Nat.le_of_ble_eq_true rfl) (fun X hX hr hE => ?_)
  have hX : FX l K X cX5_leave RX5 2 43 0 0 := hX
  show GW X 0 [some (.ref 40), some (.int (nI a)), none] [] h n 0 0
  refine g_aload_n hX dX5_leave_0 rfl rfl ?_
  refine g_iconst (v := (nI 0)) hX dX5_leave_1 (by decide) ?_
  refine g_putI hX dX5_leave_2 fl_X5_52 (m0) (Nat.le_of_ble_eq_true rfl) ?_
  show GW X 5 [some (.ref 40), some (.int (nI a)), none] [] (hs h 40 (oB 5 [.int (nI 0), .int (nI rc), .ref 41, .ref 42, .ref 43, .int (nI mc), .ref 44, .ref 45, .int tch, .int frs, .ref 46, .ref 47, .int len, .ref 48, .ref 49, .ref 50, .ref 51, .ref 56])) n 0 0
  refine g_aload_n hX dX5_leave_5 rfl rfl ?_
  refine g_iload_n hX dX5_leave_6 rfl rfl ?_
  refine g_callV (As := [.int (nI a)]) hX dX5_leave_7 cb_X5_isRinger ml_X5_94 im_X5_isRinger se_X5_isRinger rfl rfl (hs_eq _ _ _) ⟨_, rfl, rfl⟩ (kX5_isRinger hst (hs_eq _ _ _) (ha) (by omega)) (Nat.le_of_ble_eq_true rfl) (Nat.le_of_ble_eq_true rfl) (by omega) (by omega) (Nat.le_of_ble_eq_true rfl) GX.no (pq ?_)
  show GW X 10 [some (.ref 40), some (.int (nI a)), none] [.int (nI 1)] (hs h 40 (oB 5 [.int (nI 0), .int (nI rc), .ref 41, .ref 42, .ref 43, .int (nI mc), .ref 44, .ref 45, .int tch, .int frs, .ref 46, .ref 47, .int len, .ref 48, .ref 49, .ref 50, .ref 51, .ref 56])) n 0 0
  refine g_if_ne (tgt := 19) hX dX5_leave_10 (by decide) (fun _ => ?_) (fun c => absurd c (by decide))
  refine g_aload_n hX dX5_leave_19 rfl rfl ?_
  refine g_getf hX dX5_leave_20 fl_X5_45 (hs_eq _ _ _) rfl ?_
  refine g_getf hX dX5_leave_23 fl_X5_91 ((hs_ne (by omega)).trans (s0)) rfl ?_
  refine g_iload_n hX dX5_leave_26 rfl rfl ?_
  refine g_iaload hX dX5_leave_27 ((hs_ne (by omega)).trans (sst)) (a) (by omega) rfl (by omega) ?_
  refine g_istore_n (i := 2) hX dX5_leave_28 rfl (Nat.le_of_ble_eq_true rfl) rfl ?_
  refine g_iload_n hX dX5_leave_29 rfl rfl ?_
  refine g_iconst (v := (-1)) hX dX5_leave_30 (by decide) ?_
  refine g_icmp_ne (tgt := 40) hX dX5_leave_31 (by decide) (fun c1 => ?_) (fun c1 => ?_)
  · refine g_aload_n hX dX5_leave_40 rfl rfl ?_
    refine g_getf hX dX5_leave_41 fl_X5_45 (hs_eq _ _ _) rfl ?_
    refine g_getf hX dX5_leave_44 fl_X5_91 ((hs_ne (by omega)).trans (s0)) rfl ?_
    refine g_iload_n hX dX5_leave_47 rfl rfl ?_
    refine g_iconst (v := (-1)) hX dX5_leave_48 (by decide) ?_
    refine g_iastore hX dX5_leave_49 ((hs_ne (by omega)).trans (sst)) (a) (by omega) rfl (by omega) ?_
    refine g_bipush (v := (nI 10)) hX dX5_leave_50 (by decide) ?_
    refine g_iload_n hX dX5_leave_52 rfl rfl ?_
    refine g_bipush (v := (nI 6)) hX dX5_leave_53 (by decide) ?_
    refine g_idiv hX dX5_leave_55 (by decide) ?_
    refine g_imul hX dX5_leave_56 ?_
    refine g_iload_n hX dX5_leave_57 rfl rfl ?_
    refine g_bipush (v := (nI 6)) hX dX5_leave_58 (by decide) ?_
    refine g_irem hX dX5_leave_60 (by decide) ?_
    refine g_iadd hX dX5_leave_61 ?_
    refine g_ireturn hX hr dX5_leave_62 (Nat.le_refl _) (Nat.le_refl _)  ?_
    exact ⟨by rw [bandI, bellI, if_neg hz, if_neg hz], rfl, fun j hj => hs_cgj ((hs_ne (by omega)).trans (rfl)), ⟨_, _, _, _, _, _, _, _, _, _, _, ((hs_ne (by omega)).trans (hs_eq _ _ _)), ((hs_ne (by omega)).trans ((hs_ne (by omega)).trans (mco))), ((hs_ne (by omega)).trans ((hs_ne (by omega)).trans (mdg))), ((hs_ne (by omega)).trans ((hs_ne (by omega)).trans (mrw))), ((hs_ne (by omega)).trans ((hs_ne (by omega)).trans (mgo))), ((hs_ne (by omega)).trans ((hs_ne (by omega)).trans (mwe))), ((hs_ne (by omega)).trans ((hs_ne (by omega)).trans (a0))), ((hs_ne (by omega)).trans ((hs_ne (by omega)).trans (avt))), ((hs_ne (by omega)).trans ((hs_ne (by omega)).trans (ati))), ((hs_ne (by omega)).trans ((hs_ne (by omega)).trans (afa))), ((hs_ne (by omega)).trans ((hs_ne (by omega)).trans (ast)))⟩⟩
  · exact absurd c1 hz
set_option maxRecDepth 20000 in
theorem kX5_method_f {l : Launch} {K : gw_K} (hst : l.stackTraces = false) {n : Nat} {h : gw_H} {rc mc : Nat} {thr tch frs len dy ady : Int32} {mn : Nat → Nat} {wd sk ws cs co dg rw_ go we vt ti fa st avt ati afa ast : Nat → Int32}  (m0 : h 40 = (oB 5 [.int thr, .int (nI rc), .ref 41, .ref 42, .ref 43, .int (nI mc), .ref 44, .ref 45, .int tch, .int frs, .ref 46, .ref 47, .int len, .ref 48, .ref 49, .ref 50, .ref 51, .ref 56])) (mwd : h 41 = (aI 20 wd)) (msk : h 42 = (aI 20 sk)) (mws : h 43 = (aI 18 ws)) (mmn : h 44 = (aI 5 (fun k => nI (mn k)))) (mcs : h 45 = (aI 60 cs)) (mco : h 46 = (aI 201 co)) (mdg : h 47 = (aI 201 dg)) (mrw : h 48 = (aI 6 rw_)) (mgo : h 49 = (aI 6 go)) (mwe : h 50 = (aI 6 we)) (s0 : h 51 = (oB 4 [.int dy, .ref (51 + 1), .ref (51 + 2), .ref (51 + 3), .ref (51 + 4), .ref 40])) (svt : h (51 + 1) = (aI 20 vt)) (sti : h (51 + 2) = (aI 20 ti)) (sfa : h (51 + 3) = (aI 20 fa)) (sst : h (51 + 4) = (aI 20 st)) (a0 : h 56 = (oB 4 [.int ady, .ref (56 + 1), .ref (56 + 2), .ref (56 + 3), .ref (56 + 4), .ref 40])) (avt : h (56 + 1) = (aI 20 avt)) (ati : h (56 + 2) = (aI 20 ati)) (afa : h (56 + 3) = (aI 20 afa)) (ast : h (56 + 4) = (aI 20 ast)) (hn62 : 62 ≤ n) (hm5 : mc = 5) : Ctr l K mX5_method [.ref 40] h n 0 0 (PM (some (.int (nI 0))) h n (nI 1) rc mc tch frs) (PX0) := by
  refine Ctr.of hst pn_X5_method (Nat.le_of_ble_eq_true rfl) (fun X hX hr hE => ?_)
  have hX : FX l K X cX5_method RX5 1 21 0 0 := hX
  show GW X 0 [some (.ref 40)] [] h n 0 0
  refine g_aload_n hX dX5_method_0 rfl rfl ?_
  refine g_iconst (v := (nI 0)) hX dX5_method_1 (by decide) ?_
  refine g_putI hX dX5_method_2 fl_X5_52 (m0) (Nat.le_of_ble_eq_true rfl) ?_
  show GW X 5 [some (.ref 40)] [] (hs h 40 (oB 5 [.int (nI 0), .int (nI rc), .ref 41, .ref 42, .ref 43, .int (nI mc), .ref 44, .ref 45, .int tch, .int frs, .ref 46, .ref 47, .int len, .ref 48, .ref 49, .ref 50, .ref 51, .ref 56])) n 0 0
  refine g_aload_n hX dX5_method_5 rfl rfl ?_
  refine g_getf hX dX5_method_6 fl_X5_63 (hs_eq _ _ _) rfl ?_
  refine g_iconst (v := (nI 5)) hX dX5_method_9 (by decide) ?_
  refine g_icmp_neN (tgt := 19) hX dX5_method_10 (by decide) (by omega) (fun c1 => absurd c1 (by omega)) (fun c1 => ?_)
  refine g_aload_n hX dX5_method_13 rfl rfl ?_
  refine g_iconst (v := (nI 1)) hX dX5_method_14 (by decide) ?_
  refine g_callV (As := [.int (nI 1)]) hX dX5_method_15 cb_X5_no ml_X5_84 im_X5_no se_X5_no rfl rfl (hs_eq _ _ _) ⟨_, rfl, rfl⟩ (kX5_no hst (hs_eq _ _ _) ) (Nat.le_of_ble_eq_true rfl) (Nat.le_of_ble_eq_true rfl) (by omega) (by omega) (Nat.le_of_ble_eq_true rfl) GX.no (pq ?_)
  show GW X 18 [some (.ref 40)] [.int (nI 0)] (hs (hs h 40 (oB 5 [.int (nI 0), .int (nI rc), .ref 41, .ref 42, .ref 43, .int (nI mc), .ref 44, .ref 45, .int tch, .int frs, .ref 46, .ref 47, .int len, .ref 48, .ref 49, .ref 50, .ref 51, .ref 56])) 40 (oB 5 [.int (nI 1), .int (nI rc), .ref 41, .ref 42, .ref 43, .int (nI mc), .ref 44, .ref 45, .int tch, .int frs, .ref 46, .ref 47, .int len, .ref 48, .ref 49, .ref 50, .ref 51, .ref 56])) n 0 0
  refine g_cg rfl hs_hs ?_
  refine g_ireturn hX hr dX5_method_18 (Nat.le_refl _) (Nat.le_refl _)  ?_
  exact ⟨rfl, rfl, fun j hj => (hs_ne (by omega)).trans (rfl), ⟨_, _, _, _, _, _, _, _, _, _, _, (hs_eq _ _ _), ((hs_ne (by omega)).trans (mco)), ((hs_ne (by omega)).trans (mdg)), ((hs_ne (by omega)).trans (mrw)), ((hs_ne (by omega)).trans (mgo)), ((hs_ne (by omega)).trans (mwe)), ((hs_ne (by omega)).trans (a0)), ((hs_ne (by omega)).trans (avt)), ((hs_ne (by omega)).trans (ati)), ((hs_ne (by omega)).trans (afa)), ((hs_ne (by omega)).trans (ast))⟩⟩
set_option maxRecDepth 20000 in
theorem kX5_method {l : Launch} {K : gw_K} (hst : l.stackTraces = false) {n : Nat} {h : gw_H} {rc mc : Nat} {thr tch frs len dy ady : Int32} {mn : Nat → Nat} {wd sk ws cs co dg rw_ go we vt ti fa st avt ati afa ast : Nat → Int32}  (m0 : h 40 = (oB 5 [.int thr, .int (nI rc), .ref 41, .ref 42, .ref 43, .int (nI mc), .ref 44, .ref 45, .int tch, .int frs, .ref 46, .ref 47, .int len, .ref 48, .ref 49, .ref 50, .ref 51, .ref 56])) (mwd : h 41 = (aI 20 wd)) (msk : h 42 = (aI 20 sk)) (mws : h 43 = (aI 18 ws)) (mmn : h 44 = (aI 5 (fun k => nI (mn k)))) (mcs : h 45 = (aI 60 cs)) (mco : h 46 = (aI 201 co)) (mdg : h 47 = (aI 201 dg)) (mrw : h 48 = (aI 6 rw_)) (mgo : h 49 = (aI 6 go)) (mwe : h 50 = (aI 6 we)) (s0 : h 51 = (oB 4 [.int dy, .ref (51 + 1), .ref (51 + 2), .ref (51 + 3), .ref (51 + 4), .ref 40])) (svt : h (51 + 1) = (aI 20 vt)) (sti : h (51 + 2) = (aI 20 ti)) (sfa : h (51 + 3) = (aI 20 fa)) (sst : h (51 + 4) = (aI 20 st)) (a0 : h 56 = (oB 4 [.int ady, .ref (56 + 1), .ref (56 + 2), .ref (56 + 3), .ref (56 + 4), .ref 40])) (avt : h (56 + 1) = (aI 20 avt)) (ati : h (56 + 2) = (aI 20 ati)) (afa : h (56 + 3) = (aI 20 afa)) (ast : h (56 + 4) = (aI 20 ast)) (hn62 : 62 ≤ n) (hm5 : mc < 5) : Ctr l K mX5_method [.ref 40] h n 0 0 (PM (some (.int (nI mc))) h n (nI 0) rc (mc + 1) tch frs) (PX0) := by
  refine Ctr.of hst pn_X5_method (Nat.le_of_ble_eq_true rfl) (fun X hX hr hE => ?_)
  have hX : FX l K X cX5_method RX5 1 21 0 0 := hX
  show GW X 0 [some (.ref 40)] [] h n 0 0
  refine g_aload_n hX dX5_method_0 rfl rfl ?_
  refine g_iconst (v := (nI 0)) hX dX5_method_1 (by decide) ?_
  refine g_putI hX dX5_method_2 fl_X5_52 (m0) (Nat.le_of_ble_eq_true rfl) ?_
  show GW X 5 [some (.ref 40)] [] (hs h 40 (oB 5 [.int (nI 0), .int (nI rc), .ref 41, .ref 42, .ref 43, .int (nI mc), .ref 44, .ref 45, .int tch, .int frs, .ref 46, .ref 47, .int len, .ref 48, .ref 49, .ref 50, .ref 51, .ref 56])) n 0 0
  refine g_aload_n hX dX5_method_5 rfl rfl ?_
  refine g_getf hX dX5_method_6 fl_X5_63 (hs_eq _ _ _) rfl ?_
  refine g_iconst (v := (nI 5)) hX dX5_method_9 (by decide) ?_
  refine g_icmp_neN (tgt := 19) hX dX5_method_10 (by decide) (by omega) (fun c1 => ?_) (fun c1 => absurd c1 (by omega))
  refine g_aload_n hX dX5_method_19 rfl rfl ?_
  refine g_dup hX dX5_method_20 rfl ?_
  refine g_getf hX dX5_method_21 fl_X5_63 (hs_eq _ _ _) rfl ?_
  refine g_iconst (v := (nI 1)) hX dX5_method_24 (by decide) ?_
  refine g_iaddN hX dX5_method_25 ?_
  refine g_putI hX dX5_method_26 fl_X5_63 (hs_eq _ _ _) (Nat.le_of_ble_eq_true rfl) ?_
  refine g_cg rfl hs_hs ?_
  show GW X 29 [some (.ref 40)] [] (hs h 40 (oB 5 [.int (nI 0), .int (nI rc), .ref 41, .ref 42, .ref 43, .int (nI (mc + 1)), .ref 44, .ref 45, .int tch, .int frs, .ref 46, .ref 47, .int len, .ref 48, .ref 49, .ref 50, .ref 51, .ref 56])) n 0 0
  refine g_aload_n hX dX5_method_29 rfl rfl ?_
  refine g_getf hX dX5_method_30 fl_X5_63 (hs_eq _ _ _) rfl ?_
  refine g_iconst (v := (nI 1)) hX dX5_method_33 (by decide) ?_
  refine g_isubN hX dX5_method_34 (by omega) ?_
  refine g_ireturn hX hr dX5_method_35 (Nat.le_refl _) (Nat.le_refl _)  ?_
  exact ⟨rfl, rfl, fun j hj => (hs_ne (by omega)).trans (rfl), ⟨_, _, _, _, _, _, _, _, _, _, _, (hs_eq _ _ _), ((hs_ne (by omega)).trans (mco)), ((hs_ne (by omega)).trans (mdg)), ((hs_ne (by omega)).trans (mrw)), ((hs_ne (by omega)).trans (mgo)), ((hs_ne (by omega)).trans (mwe)), ((hs_ne (by omega)).trans (a0)), ((hs_ne (by omega)).trans (avt)), ((hs_ne (by omega)).trans (ati)), ((hs_ne (by omega)).trans (afa)), ((hs_ne (by omega)).trans (ast))⟩⟩
