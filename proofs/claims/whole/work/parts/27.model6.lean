set_option maxRecDepth 20000 in
theorem kX5_told_r {l : Launch} {K : gw_K} (hst : l.stackTraces = false) {n : Nat} {h : gw_H} {rc mc : Nat} {thr tch frs len dy ady : Int32} {mn : Nat → Nat} {wd sk ws cs co dg rw_ go we vt ti fa st avt ati afa ast : Nat → Int32} {a b : Int32} (m0 : h 40 = (oB 5 [.int thr, .int (nI rc), .ref 41, .ref 42, .ref 43, .int (nI mc), .ref 44, .ref 45, .int tch, .int frs, .ref 46, .ref 47, .int len, .ref 48, .ref 49, .ref 50, .ref 51, .ref 56])) (mwd : h 41 = (aI 20 wd)) (msk : h 42 = (aI 20 sk)) (mws : h 43 = (aI 18 ws)) (mmn : h 44 = (aI 5 (fun k => nI (mn k)))) (mcs : h 45 = (aI 60 cs)) (mco : h 46 = (aI 201 co)) (mdg : h 47 = (aI 201 dg)) (mrw : h 48 = (aI 6 rw_)) (mgo : h 49 = (aI 6 go)) (mwe : h 50 = (aI 6 we)) (s0 : h 51 = (oB 4 [.int dy, .ref (51 + 1), .ref (51 + 2), .ref (51 + 3), .ref (51 + 4), .ref 40])) (svt : h (51 + 1) = (aI 20 vt)) (sti : h (51 + 2) = (aI 20 ti)) (sfa : h (51 + 3) = (aI 20 fa)) (sst : h (51 + 4) = (aI 20 st)) (a0 : h 56 = (oB 4 [.int ady, .ref (56 + 1), .ref (56 + 2), .ref (56 + 3), .ref (56 + 4), .ref 40])) (avt : h (56 + 1) = (aI 20 avt)) (ati : h (56 + 2) = (aI 20 ati)) (afa : h (56 + 3) = (aI 20 afa)) (ast : h (56 + 4) = (aI 20 ast)) (hn62 : 62 ≤ n) (hrc : rc ≤ 20) (hz : a < 0 ∨ nI rc ≤ a) : Ctr l K mX5_told [.ref 40, .int a, .int b] h n 0 0 (PM (some (.int (nI 0))) h n (nI 1) rc mc tch frs) (PX0) := by
  refine Ctr.of hst pn_X5_told (Nat.le_of_ble_eq_true rfl) (fun X hX hr hE => ?_)
  have hX : FX l K X cX5_told RX5 2 43 0 0 := hX
  show GW X 0 [some (.ref 40), some (.int a), some (.int b)] [] h n 0 0
  refine g_aload_n hX dX5_told_0 rfl rfl ?_
  refine g_iconst (v := (nI 0)) hX dX5_told_1 (by decide) ?_
  refine g_putI hX dX5_told_2 fl_X5_52 (m0) (Nat.le_of_ble_eq_true rfl) ?_
  show GW X 5 [some (.ref 40), some (.int a), some (.int b)] [] (hs h 40 (oB 5 [.int (nI 0), .int (nI rc), .ref 41, .ref 42, .ref 43, .int (nI mc), .ref 44, .ref 45, .int tch, .int frs, .ref 46, .ref 47, .int len, .ref 48, .ref 49, .ref 50, .ref 51, .ref 56])) n 0 0
  refine g_aload_n hX dX5_told_5 rfl rfl ?_
  refine g_iload_n hX dX5_told_6 rfl rfl ?_
  refine g_callV (As := [.int a]) hX dX5_told_7 cb_X5_isRinger ml_X5_94 im_X5_isRinger se_X5_isRinger rfl rfl (hs_eq _ _ _) ⟨_, rfl, rfl⟩ (kX5_isRinger_x hst (hs_eq _ _ _) (hz) (by omega)) (Nat.le_of_ble_eq_true rfl) (Nat.le_of_ble_eq_true rfl) (by omega) (by omega) (Nat.le_of_ble_eq_true rfl) GX.no (pq ?_)
  show GW X 10 [some (.ref 40), some (.int a), some (.int b)] [.int (nI 0)] (hs h 40 (oB 5 [.int (nI 0), .int (nI rc), .ref 41, .ref 42, .ref 43, .int (nI mc), .ref 44, .ref 45, .int tch, .int frs, .ref 46, .ref 47, .int len, .ref 48, .ref 49, .ref 50, .ref 51, .ref 56])) n 0 0
  refine g_if_eq (tgt := 36) hX dX5_told_10 (by decide) (fun _ => ?_) (fun c => absurd (by decide) c)
  refine g_aload_n hX dX5_told_36 rfl rfl ?_
  refine g_iconst (v := (nI 1)) hX dX5_told_37 (by decide) ?_
  refine g_callV (As := [.int (nI 1)]) hX dX5_told_38 cb_X5_no ml_X5_84 im_X5_no se_X5_no rfl rfl (hs_eq _ _ _) ⟨_, rfl, rfl⟩ (kX5_no hst (hs_eq _ _ _) ) (Nat.le_of_ble_eq_true rfl) (Nat.le_of_ble_eq_true rfl) (by omega) (by omega) (Nat.le_of_ble_eq_true rfl) GX.no (pq ?_)
  show GW X 41 [some (.ref 40), some (.int a), some (.int b)] [.int (nI 0)] (hs (hs h 40 (oB 5 [.int (nI 0), .int (nI rc), .ref 41, .ref 42, .ref 43, .int (nI mc), .ref 44, .ref 45, .int tch, .int frs, .ref 46, .ref 47, .int len, .ref 48, .ref 49, .ref 50, .ref 51, .ref 56])) 40 (oB 5 [.int (nI 1), .int (nI rc), .ref 41, .ref 42, .ref 43, .int (nI mc), .ref 44, .ref 45, .int tch, .int frs, .ref 46, .ref 47, .int len, .ref 48, .ref 49, .ref 50, .ref 51, .ref 56])) n 0 0
  refine g_cg rfl hs_hs ?_
  refine g_ireturn hX hr dX5_told_41 (Nat.le_refl _) (Nat.le_refl _)  ?_
  exact ⟨rfl, rfl, fun j hj => (hs_ne (by omega)).trans (rfl), ⟨_, _, _, _, _, _, _, _, _, _, _, (hs_eq _ _ _), ((hs_ne (by omega)).trans (mco)), ((hs_ne (by omega)).trans (mdg)), ((hs_ne (by omega)).trans (mrw)), ((hs_ne (by omega)).trans (mgo)), ((hs_ne (by omega)).trans (mwe)), ((hs_ne (by omega)).trans (a0)), ((hs_ne (by omega)).trans (avt)), ((hs_ne (by omega)).trans (ati)), ((hs_ne (by omega)).trans (afa)), ((hs_ne (by omega)).trans (ast))⟩⟩
set_option maxRecDepth 20000 in
theorem kX5_told_w {l : Launch} {K : gw_K} (hst : l.stackTraces = false) {n : Nat} {h : gw_H} {rc mc : Nat} {thr tch frs len dy ady : Int32} {mn : Nat → Nat} {wd sk ws cs co dg rw_ go we vt ti fa st avt ati afa ast : Nat → Int32} {a : Nat} {b : Int32} (m0 : h 40 = (oB 5 [.int thr, .int (nI rc), .ref 41, .ref 42, .ref 43, .int (nI mc), .ref 44, .ref 45, .int tch, .int frs, .ref 46, .ref 47, .int len, .ref 48, .ref 49, .ref 50, .ref 51, .ref 56])) (mwd : h 41 = (aI 20 wd)) (msk : h 42 = (aI 20 sk)) (mws : h 43 = (aI 18 ws)) (mmn : h 44 = (aI 5 (fun k => nI (mn k)))) (mcs : h 45 = (aI 60 cs)) (mco : h 46 = (aI 201 co)) (mdg : h 47 = (aI 201 dg)) (mrw : h 48 = (aI 6 rw_)) (mgo : h 49 = (aI 6 go)) (mwe : h 50 = (aI 6 we)) (s0 : h 51 = (oB 4 [.int dy, .ref (51 + 1), .ref (51 + 2), .ref (51 + 3), .ref (51 + 4), .ref 40])) (svt : h (51 + 1) = (aI 20 vt)) (sti : h (51 + 2) = (aI 20 ti)) (sfa : h (51 + 3) = (aI 20 fa)) (sst : h (51 + 4) = (aI 20 st)) (a0 : h 56 = (oB 4 [.int ady, .ref (56 + 1), .ref (56 + 2), .ref (56 + 3), .ref (56 + 4), .ref 40])) (avt : h (56 + 1) = (aI 20 avt)) (ati : h (56 + 2) = (aI 20 ati)) (afa : h (56 + 3) = (aI 20 afa)) (ast : h (56 + 4) = (aI 20 ast)) (hn62 : 62 ≤ n) (hrc : rc ≤ 20) (ha : a < rc) (hz : b < 0 ∨ nI 8 ≤ b) : Ctr l K mX5_told [.ref 40, .int (nI a), .int b] h n 0 0 (PM (some (.int (nI 0))) h n (nI 1) rc mc tch frs) (PX0) := by
  refine Ctr.of hst pn_X5_told (Nat.le_of_ble_eq_true rfl) (fun X hX hr hE => ?_)
  have hX : FX l K X cX5_told RX5 2 43 0 0 := hX
  show GW X 0 [some (.ref 40), some (.int (nI a)), some (.int b)] [] h n 0 0
  refine g_aload_n hX dX5_told_0 rfl rfl ?_
  refine g_iconst (v := (nI 0)) hX dX5_told_1 (by decide) ?_
  refine g_putI hX dX5_told_2 fl_X5_52 (m0) (Nat.le_of_ble_eq_true rfl) ?_
  show GW X 5 [some (.ref 40), some (.int (nI a)), some (.int b)] [] (hs h 40 (oB 5 [.int (nI 0), .int (nI rc), .ref 41, .ref 42, .ref 43, .int (nI mc), .ref 44, .ref 45, .int tch, .int frs, .ref 46, .ref 47, .int len, .ref 48, .ref 49, .ref 50, .ref 51, .ref 56])) n 0 0
  refine g_aload_n hX dX5_told_5 rfl rfl ?_
  refine g_iload_n hX dX5_told_6 rfl rfl ?_
  refine g_callV (As := [.int (nI a)]) hX dX5_told_7 cb_X5_isRinger ml_X5_94 im_X5_isRinger se_X5_isRinger rfl rfl (hs_eq _ _ _) ⟨_, rfl, rfl⟩ (kX5_isRinger hst (hs_eq _ _ _) (ha) (by omega)) (Nat.le_of_ble_eq_true rfl) (Nat.le_of_ble_eq_true rfl) (by omega) (by omega) (Nat.le_of_ble_eq_true rfl) GX.no (pq ?_)
  show GW X 10 [some (.ref 40), some (.int (nI a)), some (.int b)] [.int (nI 1)] (hs h 40 (oB 5 [.int (nI 0), .int (nI rc), .ref 41, .ref 42, .ref 43, .int (nI mc), .ref 44, .ref 45, .int tch, .int frs, .ref 46, .ref 47, .int len, .ref 48, .ref 49, .ref 50, .ref 51, .ref 56])) n 0 0
  refine g_if_eq (tgt := 36) hX dX5_told_10 (by decide) (fun c => absurd c (by decide)) (fun _ => ?_)
  refine g_iload_n hX dX5_told_13 rfl rfl ?_
  refine g_iconst (v := (nI 0)) hX dX5_told_14 (by decide) ?_
  refine g_bipush (v := (nI 7)) hX dX5_told_15 (by decide) ?_
  refine g_callS (As := [.int b, .int (nI 0), .int (nI 7)]) hX dX5_told_17 cb_X5_isIn ml_X5_59 st_X5_isIn rfl rfl (kX5_isIn_x hst (hz.imp id (gn_up (by omega)))) (Nat.le_of_ble_eq_true rfl) (Nat.le_of_ble_eq_true rfl) (by omega) (by omega) (Nat.le_of_ble_eq_true rfl) GX.no (pq ?_)
  show GW X 20 [some (.ref 40), some (.int (nI a)), some (.int b)] [.int (nI 0)] (hs h 40 (oB 5 [.int (nI 0), .int (nI rc), .ref 41, .ref 42, .ref 43, .int (nI mc), .ref 44, .ref 45, .int tch, .int frs, .ref 46, .ref 47, .int len, .ref 48, .ref 49, .ref 50, .ref 51, .ref 56])) n 0 0
  refine g_if_eq (tgt := 36) hX dX5_told_20 (by decide) (fun _ => ?_) (fun c => absurd (by decide) c)
  refine g_aload_n hX dX5_told_36 rfl rfl ?_
  refine g_iconst (v := (nI 1)) hX dX5_told_37 (by decide) ?_
  refine g_callV (As := [.int (nI 1)]) hX dX5_told_38 cb_X5_no ml_X5_84 im_X5_no se_X5_no rfl rfl (hs_eq _ _ _) ⟨_, rfl, rfl⟩ (kX5_no hst (hs_eq _ _ _) ) (Nat.le_of_ble_eq_true rfl) (Nat.le_of_ble_eq_true rfl) (by omega) (by omega) (Nat.le_of_ble_eq_true rfl) GX.no (pq ?_)
  show GW X 41 [some (.ref 40), some (.int (nI a)), some (.int b)] [.int (nI 0)] (hs (hs h 40 (oB 5 [.int (nI 0), .int (nI rc), .ref 41, .ref 42, .ref 43, .int (nI mc), .ref 44, .ref 45, .int tch, .int frs, .ref 46, .ref 47, .int len, .ref 48, .ref 49, .ref 50, .ref 51, .ref 56])) 40 (oB 5 [.int (nI 1), .int (nI rc), .ref 41, .ref 42, .ref 43, .int (nI mc), .ref 44, .ref 45, .int tch, .int frs, .ref 46, .ref 47, .int len, .ref 48, .ref 49, .ref 50, .ref 51, .ref 56])) n 0 0
  refine g_cg rfl hs_hs ?_
  refine g_ireturn hX hr dX5_told_41 (Nat.le_refl _) (Nat.le_refl _)  ?_
  exact ⟨rfl, rfl, fun j hj => (hs_ne (by omega)).trans (rfl), ⟨_, _, _, _, _, _, _, _, _, _, _, (hs_eq _ _ _), ((hs_ne (by omega)).trans (mco)), ((hs_ne (by omega)).trans (mdg)), ((hs_ne (by omega)).trans (mrw)), ((hs_ne (by omega)).trans (mgo)), ((hs_ne (by omega)).trans (mwe)), ((hs_ne (by omega)).trans (a0)), ((hs_ne (by omega)).trans (avt)), ((hs_ne (by omega)).trans (ati)), ((hs_ne (by omega)).trans (afa)), ((hs_ne (by omega)).trans (ast))⟩⟩
set_option maxRecDepth 20000 in
theorem kX5_told {l : Launch} {K : gw_K} (hst : l.stackTraces = false) {n : Nat} {h : gw_H} {rc mc : Nat} {thr tch frs len dy ady : Int32} {mn : Nat → Nat} {wd sk ws cs co dg rw_ go we vt ti fa st avt ati afa ast : Nat → Int32} {a q : Nat} (m0 : h 40 = (oB 5 [.int thr, .int (nI rc), .ref 41, .ref 42, .ref 43, .int (nI mc), .ref 44, .ref 45, .int tch, .int frs, .ref 46, .ref 47, .int len, .ref 48, .ref 49, .ref 50, .ref 51, .ref 56])) (mwd : h 41 = (aI 20 wd)) (msk : h 42 = (aI 20 sk)) (mws : h 43 = (aI 18 ws)) (mmn : h 44 = (aI 5 (fun k => nI (mn k)))) (mcs : h 45 = (aI 60 cs)) (mco : h 46 = (aI 201 co)) (mdg : h 47 = (aI 201 dg)) (mrw : h 48 = (aI 6 rw_)) (mgo : h 49 = (aI 6 go)) (mwe : h 50 = (aI 6 we)) (s0 : h 51 = (oB 4 [.int dy, .ref (51 + 1), .ref (51 + 2), .ref (51 + 3), .ref (51 + 4), .ref 40])) (svt : h (51 + 1) = (aI 20 vt)) (sti : h (51 + 2) = (aI 20 ti)) (sfa : h (51 + 3) = (aI 20 fa)) (sst : h (51 + 4) = (aI 20 st)) (a0 : h 56 = (oB 4 [.int ady, .ref (56 + 1), .ref (56 + 2), .ref (56 + 3), .ref (56 + 4), .ref 40])) (avt : h (56 + 1) = (aI 20 avt)) (ati : h (56 + 2) = (aI 20 ati)) (afa : h (56 + 3) = (aI 20 afa)) (ast : h (56 + 4) = (aI 20 ast)) (hn62 : 62 ≤ n) (hrc : rc ≤ 20) (ha : a < rc) (hq : q < 8) (hso : ∀ r, r < rc → seatOK (st r)) : Ctr l K mX5_told [.ref 40, .int (nI a), .int (nI q)] h n 1 8 (PM (some (.int (tellI wd sk vt ti fa st rc a q))) h (n + 1) (nI 0) rc mc tch frs) (PX0) := by
  refine Ctr.of hst pn_X5_told (Nat.le_of_ble_eq_true rfl) (fun X hX hr hE => ?_)
  have hX : FX l K X cX5_told RX5 2 43 1 8 := hX
  show GW X 0 [some (.ref 40), some (.int (nI a)), some (.int (nI q))] [] h n 0 0
  refine g_aload_n hX dX5_told_0 rfl rfl ?_
  refine g_iconst (v := (nI 0)) hX dX5_told_1 (by decide) ?_
  refine g_putI hX dX5_told_2 fl_X5_52 (m0) (Nat.le_of_ble_eq_true rfl) ?_
  show GW X 5 [some (.ref 40), some (.int (nI a)), some (.int (nI q))] [] (hs h 40 (oB 5 [.int (nI 0), .int (nI rc), .ref 41, .ref 42, .ref 43, .int (nI mc), .ref 44, .ref 45, .int tch, .int frs, .ref 46, .ref 47, .int len, .ref 48, .ref 49, .ref 50, .ref 51, .ref 56])) n 0 0
  refine g_aload_n hX dX5_told_5 rfl rfl ?_
  refine g_iload_n hX dX5_told_6 rfl rfl ?_
  refine g_callV (As := [.int (nI a)]) hX dX5_told_7 cb_X5_isRinger ml_X5_94 im_X5_isRinger se_X5_isRinger rfl rfl (hs_eq _ _ _) ⟨_, rfl, rfl⟩ (kX5_isRinger hst (hs_eq _ _ _) (ha) (by omega)) (Nat.le_of_ble_eq_true rfl) (Nat.le_of_ble_eq_true rfl) (by omega) (by omega) (Nat.le_of_ble_eq_true rfl) GX.no (pq ?_)
  show GW X 10 [some (.ref 40), some (.int (nI a)), some (.int (nI q))] [.int (nI 1)] (hs h 40 (oB 5 [.int (nI 0), .int (nI rc), .ref 41, .ref 42, .ref 43, .int (nI mc), .ref 44, .ref 45, .int tch, .int frs, .ref 46, .ref 47, .int len, .ref 48, .ref 49, .ref 50, .ref 51, .ref 56])) n 0 0
  refine g_if_eq (tgt := 36) hX dX5_told_10 (by decide) (fun c => absurd c (by decide)) (fun _ => ?_)
  refine g_iload_n hX dX5_told_13 rfl rfl ?_
  refine g_iconst (v := (nI 0)) hX dX5_told_14 (by decide) ?_
  refine g_bipush (v := (nI 7)) hX dX5_told_15 (by decide) ?_
  refine g_callS (As := [.int (nI q), .int (nI 0), .int (nI 7)]) hX dX5_told_17 cb_X5_isIn ml_X5_59 st_X5_isIn rfl rfl (kX5_isIn hst (gn_okW (by omega) (by omega) (by omega))) (Nat.le_of_ble_eq_true rfl) (Nat.le_of_ble_eq_true rfl) (by omega) (by omega) (Nat.le_of_ble_eq_true rfl) GX.no (pq ?_)
  show GW X 20 [some (.ref 40), some (.int (nI a)), some (.int (nI q))] [.int (nI 1)] (hs h 40 (oB 5 [.int (nI 0), .int (nI rc), .ref 41, .ref 42, .ref 43, .int (nI mc), .ref 44, .ref 45, .int tch, .int frs, .ref 46, .ref 47, .int len, .ref 48, .ref 49, .ref 50, .ref 51, .ref 56])) n 0 0
  refine g_if_eq (tgt := 36) hX dX5_told_20 (by decide) (fun c => absurd c (by decide)) (fun _ => ?_)
  refine g_aload_n hX dX5_told_23 rfl rfl ?_
  refine g_aload_n hX dX5_told_24 rfl rfl ?_
  refine g_getf hX dX5_told_25 fl_X5_45 (hs_eq _ _ _) rfl ?_
  refine g_iload_n hX dX5_told_28 rfl rfl ?_
  refine g_iload_n hX dX5_told_29 rfl rfl ?_
  refine g_callV (As := [.ref 51, .int (nI a), .int (nI q)]) hX dX5_told_30 cb_X5_ringerTold ml_X5_126 im_X5_ringerTold se_X5_ringerTold rfl rfl (hs_eq _ _ _) ⟨_, rfl, rfl⟩ (kX5_ringerTold hst (hs_eq _ _ _) ((hs_ne (by omega)).trans (mwd)) ((hs_ne (by omega)).trans (msk)) ((hs_ne (by omega)).trans (s0)) ((hs_ne (by omega)).trans (svt)) ((hs_ne (by omega)).trans (sti)) ((hs_ne (by omega)).trans (sfa)) ((hs_ne (by omega)).trans (sst)) (by omega) (by omega) (by omega) (by omega) (by omega) hso) (Nat.le_of_ble_eq_true rfl) (Nat.le_of_ble_eq_true rfl) (by omega) (by omega) (Nat.le_of_ble_eq_true rfl) GX.no ?_
  rintro _ h1 _ - ⟨rfl, rfl, hk2⟩
  show GW X 33 [some (.ref 40), some (.int (nI a)), some (.int (nI q))] [.int (tellI wd sk vt ti fa st rc a q)] h1 (n + 1) 1 8
  refine g_goto (tgt := 41) hX dX5_told_33 (by decide) ?_
  refine g_ireturn hX hr dX5_told_41 (by omega) (by omega)  ?_
  exact ⟨rfl, rfl, fun j hj => (hk2 j (by omega)).trans ((hs_ne (by omega)).trans (rfl)), ⟨_, _, _, _, _, _, _, _, _, _, _, ((hk2 _ (by omega)).trans (hs_eq _ _ _)), ((hk2 _ (by omega)).trans ((hs_ne (by omega)).trans (mco))), ((hk2 _ (by omega)).trans ((hs_ne (by omega)).trans (mdg))), ((hk2 _ (by omega)).trans ((hs_ne (by omega)).trans (mrw))), ((hk2 _ (by omega)).trans ((hs_ne (by omega)).trans (mgo))), ((hk2 _ (by omega)).trans ((hs_ne (by omega)).trans (mwe))), ((hk2 _ (by omega)).trans ((hs_ne (by omega)).trans (a0))), ((hk2 _ (by omega)).trans ((hs_ne (by omega)).trans (avt))), ((hk2 _ (by omega)).trans ((hs_ne (by omega)).trans (ati))), ((hk2 _ (by omega)).trans ((hs_ne (by omega)).trans (afa))), ((hk2 _ (by omega)).trans ((hs_ne (by omega)).trans (ast)))⟩⟩
set_option maxRecDepth 20000 in
theorem kX5_bell_s {l : Launch} {K : gw_K} (hst : l.stackTraces = false) {n : Nat} {h : gw_H} {rc mc : Nat} {thr tch frs len dy ady : Int32} {mn : Nat → Nat} {wd sk ws cs co dg rw_ go we vt ti fa st avt ati afa ast : Nat → Int32} {a b d : Int32} (m0 : h 40 = (oB 5 [.int thr, .int (nI rc), .ref 41, .ref 42, .ref 43, .int (nI mc), .ref 44, .ref 45, .int tch, .int frs, .ref 46, .ref 47, .int len, .ref 48, .ref 49, .ref 50, .ref 51, .ref 56])) (mwd : h 41 = (aI 20 wd)) (msk : h 42 = (aI 20 sk)) (mws : h 43 = (aI 18 ws)) (mmn : h 44 = (aI 5 (fun k => nI (mn k)))) (mcs : h 45 = (aI 60 cs)) (mco : h 46 = (aI 201 co)) (mdg : h 47 = (aI 201 dg)) (mrw : h 48 = (aI 6 rw_)) (mgo : h 49 = (aI 6 go)) (mwe : h 50 = (aI 6 we)) (s0 : h 51 = (oB 4 [.int dy, .ref (51 + 1), .ref (51 + 2), .ref (51 + 3), .ref (51 + 4), .ref 40])) (svt : h (51 + 1) = (aI 20 vt)) (sti : h (51 + 2) = (aI 20 ti)) (sfa : h (51 + 3) = (aI 20 fa)) (sst : h (51 + 4) = (aI 20 st)) (a0 : h 56 = (oB 4 [.int ady, .ref (56 + 1), .ref (56 + 2), .ref (56 + 3), .ref (56 + 4), .ref 40])) (avt : h (56 + 1) = (aI 20 avt)) (ati : h (56 + 2) = (aI 20 ati)) (afa : h (56 + 3) = (aI 20 afa)) (ast : h (56 + 4) = (aI 20 ast)) (hn62 : 62 ≤ n) (hz : (a < 0 ∨ nI 3 ≤ a) ∨ (b < 0 ∨ nI 6 ≤ b)) : Ctr l K mX5_bell [.ref 40, .int a, .int b, .int d] h n 0 0 (PM (some (.int (nI 0))) h n (nI 1) rc mc tch frs) (PX0) := by
  refine Ctr.of hst pn_X5_bell (Nat.le_of_ble_eq_true rfl) (fun X hX hr hE => ?_)
  have hX : FX l K X cX5_bell RX5 4 127 0 0 := hX
  show GW X 0 [some (.ref 40), some (.int a), some (.int b), some (.int d)] [] h n 0 0
  refine g_aload_n hX dX5_bell_0 rfl rfl ?_
  refine g_iconst (v := (nI 0)) hX dX5_bell_1 (by decide) ?_
  refine g_putI hX dX5_bell_2 fl_X5_52 (m0) (Nat.le_of_ble_eq_true rfl) ?_
  show GW X 5 [some (.ref 40), some (.int a), some (.int b), some (.int d)] [] (hs h 40 (oB 5 [.int (nI 0), .int (nI rc), .ref 41, .ref 42, .ref 43, .int (nI mc), .ref 44, .ref 45, .int tch, .int frs, .ref 46, .ref 47, .int len, .ref 48, .ref 49, .ref 50, .ref 51, .ref 56])) n 0 0
  refine g_iload_n hX dX5_bell_5 rfl rfl ?_
  refine g_iload_n hX dX5_bell_6 rfl rfl ?_
  refine g_callS (As := [.int a, .int b]) hX dX5_bell_7 cb_X5_isSeat ml_X5_106 st_X5_isSeat rfl rfl (kX5_isSeat_x hst hz) (Nat.le_of_ble_eq_true rfl) (Nat.le_of_ble_eq_true rfl) (by omega) (by omega) (Nat.le_of_ble_eq_true rfl) GX.no (pq ?_)
  show GW X 10 [some (.ref 40), some (.int a), some (.int b), some (.int d)] [.int (nI 0)] (hs h 40 (oB 5 [.int (nI 0), .int (nI rc), .ref 41, .ref 42, .ref 43, .int (nI mc), .ref 44, .ref 45, .int tch, .int frs, .ref 46, .ref 47, .int len, .ref 48, .ref 49, .ref 50, .ref 51, .ref 56])) n 0 0
  refine g_if_eq (tgt := 32) hX dX5_bell_10 (by decide) (fun _ => ?_) (fun c => absurd (by decide) c)
  refine g_aload_n hX dX5_bell_32 rfl rfl ?_
  refine g_iconst (v := (nI 1)) hX dX5_bell_33 (by decide) ?_
  refine g_callV (As := [.int (nI 1)]) hX dX5_bell_34 cb_X5_no ml_X5_84 im_X5_no se_X5_no rfl rfl (hs_eq _ _ _) ⟨_, rfl, rfl⟩ (kX5_no hst (hs_eq _ _ _) ) (Nat.le_of_ble_eq_true rfl) (Nat.le_of_ble_eq_true rfl) (by omega) (by omega) (Nat.le_of_ble_eq_true rfl) GX.no (pq ?_)
  show GW X 37 [some (.ref 40), some (.int a), some (.int b), some (.int d)] [.int (nI 0)] (hs (hs h 40 (oB 5 [.int (nI 0), .int (nI rc), .ref 41, .ref 42, .ref 43, .int (nI mc), .ref 44, .ref 45, .int tch, .int frs, .ref 46, .ref 47, .int len, .ref 48, .ref 49, .ref 50, .ref 51, .ref 56])) 40 (oB 5 [.int (nI 1), .int (nI rc), .ref 41, .ref 42, .ref 43, .int (nI mc), .ref 44, .ref 45, .int tch, .int frs, .ref 46, .ref 47, .int len, .ref 48, .ref 49, .ref 50, .ref 51, .ref 56])) n 0 0
  refine g_cg rfl hs_hs ?_
  refine g_ireturn hX hr dX5_bell_37 (Nat.le_refl _) (Nat.le_refl _)  ?_
  exact ⟨rfl, rfl, fun j hj => (hs_ne (by omega)).trans (rfl), ⟨_, _, _, _, _, _, _, _, _, _, _, (hs_eq _ _ _), ((hs_ne (by omega)).trans (mco)), ((hs_ne (by omega)).trans (mdg)), ((hs_ne (by omega)).trans (mrw)), ((hs_ne (by omega)).trans (mgo)), ((hs_ne (by omega)).trans (mwe)), ((hs_ne (by omega)).trans (a0)), ((hs_ne (by omega)).trans (avt)), ((hs_ne (by omega)).trans (ati)), ((hs_ne (by omega)).trans (afa)), ((hs_ne (by omega)).trans (ast))⟩⟩
set_option maxRecDepth 20000 in
theorem kX5_bell_w {l : Launch} {K : gw_K} (hst : l.stackTraces = false) {n : Nat} {h : gw_H} {rc mc : Nat} {thr tch frs len dy ady : Int32} {mn : Nat → Nat} {wd sk ws cs co dg rw_ go we vt ti fa st avt ati afa ast : Nat → Int32} {a b : Nat} {d : Int32} (m0 : h 40 = (oB 5 [.int thr, .int (nI rc), .ref 41, .ref 42, .ref 43, .int (nI mc), .ref 44, .ref 45, .int tch, .int frs, .ref 46, .ref 47, .int len, .ref 48, .ref 49, .ref 50, .ref 51, .ref 56])) (mwd : h 41 = (aI 20 wd)) (msk : h 42 = (aI 20 sk)) (mws : h 43 = (aI 18 ws)) (mmn : h 44 = (aI 5 (fun k => nI (mn k)))) (mcs : h 45 = (aI 60 cs)) (mco : h 46 = (aI 201 co)) (mdg : h 47 = (aI 201 dg)) (mrw : h 48 = (aI 6 rw_)) (mgo : h 49 = (aI 6 go)) (mwe : h 50 = (aI 6 we)) (s0 : h 51 = (oB 4 [.int dy, .ref (51 + 1), .ref (51 + 2), .ref (51 + 3), .ref (51 + 4), .ref 40])) (svt : h (51 + 1) = (aI 20 vt)) (sti : h (51 + 2) = (aI 20 ti)) (sfa : h (51 + 3) = (aI 20 fa)) (sst : h (51 + 4) = (aI 20 st)) (a0 : h 56 = (oB 4 [.int ady, .ref (56 + 1), .ref (56 + 2), .ref (56 + 3), .ref (56 + 4), .ref 40])) (avt : h (56 + 1) = (aI 20 avt)) (ati : h (56 + 2) = (aI 20 ati)) (afa : h (56 + 3) = (aI 20 afa)) (ast : h (56 + 4) = (aI 20 ast)) (hn62 : 62 ≤ n) (ha : a < 3) (hb : b < 6) (hz : d < 0 ∨ nI 3 ≤ d) : Ctr l K mX5_bell [.ref 40, .int (nI a), .int (nI b), .int d] h n 0 0 (PM (some (.int (nI 0))) h n (nI 1) rc mc tch frs) (PX0) := by
  refine Ctr.of hst pn_X5_bell (Nat.le_of_ble_eq_true rfl) (fun X hX hr hE => ?_)
  have hX : FX l K X cX5_bell RX5 4 127 0 0 := hX
  show GW X 0 [some (.ref 40), some (.int (nI a)), some (.int (nI b)), some (.int d)] [] h n 0 0
  refine g_aload_n hX dX5_bell_0 rfl rfl ?_
  refine g_iconst (v := (nI 0)) hX dX5_bell_1 (by decide) ?_
  refine g_putI hX dX5_bell_2 fl_X5_52 (m0) (Nat.le_of_ble_eq_true rfl) ?_
  show GW X 5 [some (.ref 40), some (.int (nI a)), some (.int (nI b)), some (.int d)] [] (hs h 40 (oB 5 [.int (nI 0), .int (nI rc), .ref 41, .ref 42, .ref 43, .int (nI mc), .ref 44, .ref 45, .int tch, .int frs, .ref 46, .ref 47, .int len, .ref 48, .ref 49, .ref 50, .ref 51, .ref 56])) n 0 0
  refine g_iload_n hX dX5_bell_5 rfl rfl ?_
  refine g_iload_n hX dX5_bell_6 rfl rfl ?_
  refine g_callS (As := [.int (nI a), .int (nI b)]) hX dX5_bell_7 cb_X5_isSeat ml_X5_106 st_X5_isSeat rfl rfl (kX5_isSeat hst ha hb) (Nat.le_of_ble_eq_true rfl) (Nat.le_of_ble_eq_true rfl) (by omega) (by omega) (Nat.le_of_ble_eq_true rfl) GX.no (pq ?_)
  show GW X 10 [some (.ref 40), some (.int (nI a)), some (.int (nI b)), some (.int d)] [.int (nI 1)] (hs h 40 (oB 5 [.int (nI 0), .int (nI rc), .ref 41, .ref 42, .ref 43, .int (nI mc), .ref 44, .ref 45, .int tch, .int frs, .ref 46, .ref 47, .int len, .ref 48, .ref 49, .ref 50, .ref 51, .ref 56])) n 0 0
  refine g_if_eq (tgt := 32) hX dX5_bell_10 (by decide) (fun c => absurd c (by decide)) (fun _ => ?_)
  refine g_iload_n hX dX5_bell_13 rfl rfl ?_
  refine g_iconst (v := (nI 0)) hX dX5_bell_14 (by decide) ?_
  refine g_iconst (v := (nI 2)) hX dX5_bell_15 (by decide) ?_
  refine g_callS (As := [.int d, .int (nI 0), .int (nI 2)]) hX dX5_bell_16 cb_X5_isIn ml_X5_59 st_X5_isIn rfl rfl (kX5_isIn_x hst (hz.imp id (gn_up (by omega)))) (Nat.le_of_ble_eq_true rfl) (Nat.le_of_ble_eq_true rfl) (by omega) (by omega) (Nat.le_of_ble_eq_true rfl) GX.no (pq ?_)
  show GW X 19 [some (.ref 40), some (.int (nI a)), some (.int (nI b)), some (.int d)] [.int (nI 0)] (hs h 40 (oB 5 [.int (nI 0), .int (nI rc), .ref 41, .ref 42, .ref 43, .int (nI mc), .ref 44, .ref 45, .int tch, .int frs, .ref 46, .ref 47, .int len, .ref 48, .ref 49, .ref 50, .ref 51, .ref 56])) n 0 0
  refine g_if_eq (tgt := 32) hX dX5_bell_19 (by decide) (fun _ => ?_) (fun c => absurd (by decide) c)
  refine g_aload_n hX dX5_bell_32 rfl rfl ?_
  refine g_iconst (v := (nI 1)) hX dX5_bell_33 (by decide) ?_
  refine g_callV (As := [.int (nI 1)]) hX dX5_bell_34 cb_X5_no ml_X5_84 im_X5_no se_X5_no rfl rfl (hs_eq _ _ _) ⟨_, rfl, rfl⟩ (kX5_no hst (hs_eq _ _ _) ) (Nat.le_of_ble_eq_true rfl) (Nat.le_of_ble_eq_true rfl) (by omega) (by omega) (Nat.le_of_ble_eq_true rfl) GX.no (pq ?_)
  show GW X 37 [some (.ref 40), some (.int (nI a)), some (.int (nI b)), some (.int d)] [.int (nI 0)] (hs (hs h 40 (oB 5 [.int (nI 0), .int (nI rc), .ref 41, .ref 42, .ref 43, .int (nI mc), .ref 44, .ref 45, .int tch, .int frs, .ref 46, .ref 47, .int len, .ref 48, .ref 49, .ref 50, .ref 51, .ref 56])) 40 (oB 5 [.int (nI 1), .int (nI rc), .ref 41, .ref 42, .ref 43, .int (nI mc), .ref 44, .ref 45, .int tch, .int frs, .ref 46, .ref 47, .int len, .ref 48, .ref 49, .ref 50, .ref 51, .ref 56])) n 0 0
  refine g_cg rfl hs_hs ?_
  refine g_ireturn hX hr dX5_bell_37 (Nat.le_refl _) (Nat.le_refl _)  ?_
  exact ⟨rfl, rfl, fun j hj => (hs_ne (by omega)).trans (rfl), ⟨_, _, _, _, _, _, _, _, _, _, _, (hs_eq _ _ _), ((hs_ne (by omega)).trans (mco)), ((hs_ne (by omega)).trans (mdg)), ((hs_ne (by omega)).trans (mrw)), ((hs_ne (by omega)).trans (mgo)), ((hs_ne (by omega)).trans (mwe)), ((hs_ne (by omega)).trans (a0)), ((hs_ne (by omega)).trans (avt)), ((hs_ne (by omega)).trans (ati)), ((hs_ne (by omega)).trans (afa)), ((hs_ne (by omega)).trans (ast))⟩⟩
set_option maxRecDepth 20000 in
theorem kX5_bell {l : Launch} {K : gw_K} (hst : l.stackTraces = false) {n : Nat} {h : gw_H} {rc mc : Nat} {thr tch frs len dy ady : Int32} {mn : Nat → Nat} {wd sk ws cs co dg rw_ go we vt ti fa st avt ati afa ast : Nat → Int32} {a b q : Nat} (m0 : h 40 = (oB 5 [.int thr, .int (nI rc), .ref 41, .ref 42, .ref 43, .int (nI mc), .ref 44, .ref 45, .int tch, .int frs, .ref 46, .ref 47, .int len, .ref 48, .ref 49, .ref 50, .ref 51, .ref 56])) (mwd : h 41 = (aI 20 wd)) (msk : h 42 = (aI 20 sk)) (mws : h 43 = (aI 18 ws)) (mmn : h 44 = (aI 5 (fun k => nI (mn k)))) (mcs : h 45 = (aI 60 cs)) (mco : h 46 = (aI 201 co)) (mdg : h 47 = (aI 201 dg)) (mrw : h 48 = (aI 6 rw_)) (mgo : h 49 = (aI 6 go)) (mwe : h 50 = (aI 6 we)) (s0 : h 51 = (oB 4 [.int dy, .ref (51 + 1), .ref (51 + 2), .ref (51 + 3), .ref (51 + 4), .ref 40])) (svt : h (51 + 1) = (aI 20 vt)) (sti : h (51 + 2) = (aI 20 ti)) (sfa : h (51 + 3) = (aI 20 fa)) (sst : h (51 + 4) = (aI 20 st)) (a0 : h 56 = (oB 4 [.int ady, .ref (56 + 1), .ref (56 + 2), .ref (56 + 3), .ref (56 + 4), .ref 40])) (avt : h (56 + 1) = (aI 20 avt)) (ati : h (56 + 2) = (aI 20 ati)) (afa : h (56 + 3) = (aI 20 afa)) (ast : h (56 + 4) = (aI 20 ast)) (hn62 : 62 ≤ n) (hrc : rc ≤ 20) (hsi : seatI st rc) (hvp : ∀ r, r < rc → 0 ≤ vt r) (ha : a < 3) (hb : b < 6) (hq : q < 3) : Ctr l K mX5_bell [.ref 40, .int (nI a), .int (nI b), .int (nI q)] h n 0 0 (PM (some (.int (bellT wd vt ws st rc a b q))) h n (nI 0) rc mc tch frs) (PX0) := by
  refine Ctr.of hst pn_X5_bell (Nat.le_of_ble_eq_true rfl) (fun X hX hr hE => ?_)
  have hX : FX l K X cX5_bell RX5 4 127 0 0 := hX
  show GW X 0 [some (.ref 40), some (.int (nI a)), some (.int (nI b)), some (.int (nI q))] [] h n 0 0
  refine g_aload_n hX dX5_bell_0 rfl rfl ?_
  refine g_iconst (v := (nI 0)) hX dX5_bell_1 (by decide) ?_
  refine g_putI hX dX5_bell_2 fl_X5_52 (m0) (Nat.le_of_ble_eq_true rfl) ?_
  show GW X 5 [some (.ref 40), some (.int (nI a)), some (.int (nI b)), some (.int (nI q))] [] (hs h 40 (oB 5 [.int (nI 0), .int (nI rc), .ref 41, .ref 42, .ref 43, .int (nI mc), .ref 44, .ref 45, .int tch, .int frs, .ref 46, .ref 47, .int len, .ref 48, .ref 49, .ref 50, .ref 51, .ref 56])) n 0 0
  refine g_iload_n hX dX5_bell_5 rfl rfl ?_
  refine g_iload_n hX dX5_bell_6 rfl rfl ?_
  refine g_callS (As := [.int (nI a), .int (nI b)]) hX dX5_bell_7 cb_X5_isSeat ml_X5_106 st_X5_isSeat rfl rfl (kX5_isSeat hst ha hb) (Nat.le_of_ble_eq_true rfl) (Nat.le_of_ble_eq_true rfl) (by omega) (by omega) (Nat.le_of_ble_eq_true rfl) GX.no (pq ?_)
  show GW X 10 [some (.ref 40), some (.int (nI a)), some (.int (nI b)), some (.int (nI q))] [.int (nI 1)] (hs h 40 (oB 5 [.int (nI 0), .int (nI rc), .ref 41, .ref 42, .ref 43, .int (nI mc), .ref 44, .ref 45, .int tch, .int frs, .ref 46, .ref 47, .int len, .ref 48, .ref 49, .ref 50, .ref 51, .ref 56])) n 0 0
  refine g_if_eq (tgt := 32) hX dX5_bell_10 (by decide) (fun c => absurd c (by decide)) (fun _ => ?_)
  refine g_iload_n hX dX5_bell_13 rfl rfl ?_
  refine g_iconst (v := (nI 0)) hX dX5_bell_14 (by decide) ?_
  refine g_iconst (v := (nI 2)) hX dX5_bell_15 (by decide) ?_
  refine g_callS (As := [.int (nI q), .int (nI 0), .int (nI 2)]) hX dX5_bell_16 cb_X5_isIn ml_X5_59 st_X5_isIn rfl rfl (kX5_isIn hst (gn_okW (by omega) (by omega) (by omega))) (Nat.le_of_ble_eq_true rfl) (Nat.le_of_ble_eq_true rfl) (by omega) (by omega) (Nat.le_of_ble_eq_true rfl) GX.no (pq ?_)
  show GW X 19 [some (.ref 40), some (.int (nI a)), some (.int (nI b)), some (.int (nI q))] [.int (nI 1)] (hs h 40 (oB 5 [.int (nI 0), .int (nI rc), .ref 41, .ref 42, .ref 43, .int (nI mc), .ref 44, .ref 45, .int tch, .int frs, .ref 46, .ref 47, .int len, .ref 48, .ref 49, .ref 50, .ref 51, .ref 56])) n 0 0
  refine g_if_eq (tgt := 32) hX dX5_bell_19 (by decide) (fun c => absurd c (by decide)) (fun _ => ?_)
  refine g_aload_n hX dX5_bell_22 rfl rfl ?_
  refine g_iload_n hX dX5_bell_23 rfl rfl ?_
  refine g_iload_n hX dX5_bell_24 rfl rfl ?_
  refine g_iload_n hX dX5_bell_25 rfl rfl ?_
  refine g_callV (As := [.int (nI a), .int (nI b), .int (nI q)]) hX dX5_bell_26 cb_X5_bellTold ml_X5_134 im_X5_bellTold se_X5_bellTold rfl rfl (hs_eq _ _ _) ⟨_, rfl, rfl⟩ (kX5_bellTold hst (hs_eq _ _ _) ((hs_ne (by omega)).trans (mwd)) ((hs_ne (by omega)).trans (msk)) ((hs_ne (by omega)).trans (mws)) ((hs_ne (by omega)).trans (mmn)) ((hs_ne (by omega)).trans (mcs)) ((hs_ne (by omega)).trans (mco)) ((hs_ne (by omega)).trans (mdg)) ((hs_ne (by omega)).trans (mrw)) ((hs_ne (by omega)).trans (mgo)) ((hs_ne (by omega)).trans (mwe)) ((hs_ne (by omega)).trans (s0)) ((hs_ne (by omega)).trans (svt)) ((hs_ne (by omega)).trans (sti)) ((hs_ne (by omega)).trans (sfa)) ((hs_ne (by omega)).trans (sst)) ((hs_ne (by omega)).trans (a0)) ((hs_ne (by omega)).trans (avt)) ((hs_ne (by omega)).trans (ati)) ((hs_ne (by omega)).trans (afa)) ((hs_ne (by omega)).trans (ast)) (by omega) (by omega) hsi hvp (by omega) (by omega) (by omega)) (Nat.le_of_ble_eq_true rfl) (Nat.le_of_ble_eq_true rfl) (by omega) (by omega) (Nat.le_of_ble_eq_true rfl) GX.no ?_
  rintro _ h1 _ - ⟨rfl, rfl, hk2⟩
  show GW X 29 [some (.ref 40), some (.int (nI a)), some (.int (nI b)), some (.int (nI q))] [.int (bellT wd vt ws st rc a b q)] h1 n 0 0
  obtain ⟨hk2K, len1, ady1, co1, dg1, rw_1, go1, we1, avt1, ati1, afa1, ast1, q40_1, q46_1, q47_1, q48_1, q49_1, q50_1, q56_1, q57_1, q58_1, q59_1, q60_1⟩ := id hk2
  refine g_goto (tgt := 37) hX dX5_bell_29 (by decide) ?_
  refine g_ireturn hX hr dX5_bell_37 (Nat.le_refl _) (Nat.le_refl _)  ?_
  exact ⟨rfl, rfl, fun j hj => (hk2K j (by omega)).trans ((hs_ne (by omega)).trans (rfl)), ⟨_, _, _, _, _, _, _, _, _, _, _, q40_1, q46_1, q47_1, q48_1, q49_1, q50_1, q56_1, q57_1, q58_1, q59_1, q60_1⟩⟩
set_option maxRecDepth 20000 in
theorem kX5_counted {l : Launch} {K : gw_K} (hst : l.stackTraces = false) {n : Nat} {h : gw_H} {rc mc : Nat} {thr tch frs len : Int32} {q : Nat} {dy : Int32} {vt ti fa st : Nat → Int32} (m0 : h 40 = (oB 5 [.int thr, .int (nI rc), .ref 41, .ref 42, .ref 43, .int (nI mc), .ref 44, .ref 45, .int tch, .int frs, .ref 46, .ref 47, .int len, .ref 48, .ref 49, .ref 50, .ref 51, .ref 56])) (s0 : h 51 = (oB 4 [.int dy, .ref (51 + 1), .ref (51 + 2), .ref (51 + 3), .ref (51 + 4), .ref 40])) (svt : h (51 + 1) = (aI 20 vt)) (sti : h (51 + 2) = (aI 20 ti)) (sfa : h (51 + 3) = (aI 20 fa)) (sst : h (51 + 4) = (aI 20 st)) (hn62 : 62 ≤ n) (hrc : rc ≤ 20) (hq : q < 9) (hso : ∀ r, r < rc → seatOK (st r)) : Ctr l K mX5_counted [.ref 40, .int (nI q)] h n 1 9 (PA (some (.int (mcI vt fa st rc mc dy tch frs q))) h n) (PX0) := by
  refine Ctr.of hst pn_X5_counted (Nat.le_of_ble_eq_true rfl) (fun X hX hr hE => ?_)
  have hX : FX l K X cX5_counted RX5 1 23 1 9 := hX
  show GW X 0 [some (.ref 40), some (.int (nI q)), none, none, none, none] [] h n 0 0
  refine g_iconst (v := (nI 0)) hX dX5_counted_0 (by decide) ?_
  refine g_istore_n (i := 2) hX dX5_counted_1 rfl (Nat.le_of_ble_eq_true rfl) rfl ?_
  refine g_iconst (v := (nI 0)) hX dX5_counted_2 (by decide) ?_
  refine g_istore_n (i := 3) hX dX5_counted_3 rfl (Nat.le_of_ble_eq_true rfl) rfl ?_
  refine g_iconst (v := (nI 0)) hX dX5_counted_4 (by decide) ?_
  refine g_istore hX dX5_counted_5 (Nat.le_of_ble_eq_true rfl) rfl ?_
  refine g_iconst (v := (nI 0)) hX dX5_counted_7 (by decide) ?_
  refine g_istore hX dX5_counted_8 (Nat.le_of_ble_eq_true rfl) rfl ?_
  refine g_cg (L' := [some (.ref 40), some (.int (nI q)), some (.int ((nI 0, nI 0).1)), some (.int (nI 0)), some (.int ((nI 0, nI 0).2)), some (.int (nI 0))]) (h' := h) (by rfl) (by rfl) ?_
  refine g_for (P := fun (i : Nat) (s : Int32 × Int32) => GW X 10 [some (.ref 40), some (.int (nI q)), some (.int s.1), some (.int (nI 0)), some (.int s.2), some (.int (nI i))] [] h n 0 0) (step := fun i s => (mbP st i s.1, s.2 + fa i)) rc (nI 0, nI 0) ?_ ?_
  · intro i1 ⟨bs2, fs2⟩ hi1 es2 ihi1
    have ihi1 : GW X 10 [some (.ref 40), some (.int (nI q)), some (.int ((mbP st i1 bs2, fs2 + fa i1).1)), some (.int (nI 0)), some (.int ((mbP st i1 bs2, fs2 + fa i1).2)), some (.int (nI (i1 + 1)))] [] h n 0 0 := ihi1
    refine g_iload hX dX5_counted_10 rfl ?_
    refine g_aload_n hX dX5_counted_12 rfl rfl ?_
    refine g_getf hX dX5_counted_13 fl_X5_56 (m0) rfl ?_
    refine g_icmp_geN (tgt := 61) hX dX5_counted_16 (by decide) (by omega) (fun c3 => absurd c3 (by omega)) (fun c3 => ?_)
    refine g_iload_n hX dX5_counted_19 rfl rfl ?_
    refine g_aload_n hX dX5_counted_20 rfl rfl ?_
    refine g_getf hX dX5_counted_21 fl_X5_45 (m0) rfl ?_
    refine g_getf hX dX5_counted_24 fl_X5_91 (s0) rfl ?_
    refine g_iload hX dX5_counted_27 rfl ?_
    refine g_iaload hX dX5_counted_29 (sst) (i1) (by omega) rfl (by omega) ?_
    refine g_if_lt (tgt := 37) hX dX5_counted_30 (by decide) (fun c4 => ?_) (fun c4 => ?_)
    · refine g_iconst (v := (nI 0)) hX dX5_counted_37 (by decide) ?_
      refine g_iadd hX dX5_counted_38 ?_
      refine g_istore_n (i := 2) hX dX5_counted_39 rfl (Nat.le_of_ble_eq_true rfl) rfl ?_
      refine g_iload hX dX5_counted_40 rfl ?_
      refine g_aload_n hX dX5_counted_42 rfl rfl ?_
      refine g_getf hX dX5_counted_43 fl_X5_45 (m0) rfl ?_
      refine g_getf hX dX5_counted_46 fl_X5_123 (s0) rfl ?_
      refine g_iload hX dX5_counted_49 rfl ?_
      refine g_iaload hX dX5_counted_51 (sfa) (i1) (by omega) rfl (by omega) ?_
      refine g_iadd hX dX5_counted_52 ?_
      refine g_istore hX dX5_counted_53 (Nat.le_of_ble_eq_true rfl) rfl ?_
      refine g_iinc (v := (nI (i1 + 1))) hX dX5_counted_55 rfl rfl (gn_inc _ _) ?_
      refine g_goto (tgt := 10) hX dX5_counted_58 (by decide) ?_
      refine g_cv ihi1 (by rw [mbP, if_pos c4]; rfl) rfl
    · refine g_iconst (v := (nI 1)) hX dX5_counted_33 (by decide) ?_
      refine g_goto (tgt := 38) hX dX5_counted_34 (by decide) ?_
      refine g_iadd hX dX5_counted_38 ?_
      refine g_istore_n (i := 2) hX dX5_counted_39 rfl (Nat.le_of_ble_eq_true rfl) rfl ?_
      refine g_iload hX dX5_counted_40 rfl ?_
      refine g_aload_n hX dX5_counted_42 rfl rfl ?_
      refine g_getf hX dX5_counted_43 fl_X5_45 (m0) rfl ?_
      refine g_getf hX dX5_counted_46 fl_X5_123 (s0) rfl ?_
      refine g_iload hX dX5_counted_49 rfl ?_
      refine g_iaload hX dX5_counted_51 (sfa) (i1) (by omega) rfl (by omega) ?_
      refine g_iadd hX dX5_counted_52 ?_
      refine g_istore hX dX5_counted_53 (Nat.le_of_ble_eq_true rfl) rfl ?_
      refine g_iinc (v := (nI (i1 + 1))) hX dX5_counted_55 rfl rfl (gn_inc _ _) ?_
      refine g_goto (tgt := 10) hX dX5_counted_58 (by decide) ?_
      refine g_cv ihi1 (by rw [mbP, if_neg c4]; rfl) rfl
  · refine g_iload hX dX5_counted_10 rfl ?_
    refine g_aload_n hX dX5_counted_12 rfl rfl ?_
    refine g_getf hX dX5_counted_13 fl_X5_56 (m0) rfl ?_
    refine g_icmp_geN (tgt := 61) hX dX5_counted_16 (by decide) (by omega) (fun c5 => ?_) (fun c5 => absurd c5 (by omega))
    have hp9 : itr (fun i (s : Int32 × Int32) => (mbP st i s.1, s.2 + fa i)) rc (nI 0, nI 0) = (mbI st rc, sumI fa rc) := itr_pair (f := mbP st) (g := fun r s => s + fa r) rc
    refine g_cg (L' := [some (.ref 40), some (.int (nI q)), some (.int (mbI st rc)), some (.int (nI 0)), some (.int (sumI fa rc)), some (.int (nI rc))]) (by rw [hp9]) rfl ?_
    refine g_iconst (v := (nI 0)) hX dX5_counted_61 (by decide) ?_
    refine g_istore hX dX5_counted_62 (Nat.le_of_ble_eq_true rfl) rfl ?_
    refine g_for (P := fun (i : Nat) (s : Int32) => GW X 64 [some (.ref 40), some (.int (nI q)), some (.int (mbI st rc)), some (.int s), some (.int (sumI fa rc)), some (.int (nI i))] [] h n 0 0) (step := fun i s => if cntI st rc (nI i) = nI 6 then s + 1 else s) 3 (nI 0) ?_ ?_
    · intro i6 s7 hi6 es7 ihi6
      have ihi6 : GW X 64 [some (.ref 40), some (.int (nI q)), some (.int (mbI st rc)), some (.int (if cntI st rc (nI i6) = nI 6 then s7 + 1 else s7)), some (.int (sumI fa rc)), some (.int (nI (i6 + 1)))] [] h n 0 0 := ihi6
      refine g_iload hX dX5_counted_64 rfl ?_
      refine g_iconst (v := (nI 3)) hX dX5_counted_66 (by decide) ?_
      refine g_icmp_geN (tgt := 98) hX dX5_counted_67 (by decide) (by omega) (fun c8 => absurd c8 (by omega)) (fun c8 => ?_)
      refine g_iload_n hX dX5_counted_70 rfl rfl ?_
      refine g_aload_n hX dX5_counted_71 rfl rfl ?_
      refine g_getf hX dX5_counted_72 fl_X5_45 (m0) rfl ?_
      refine g_iload hX dX5_counted_75 rfl ?_
      refine g_callV (As := [.int (nI i6)]) hX dX5_counted_77 cb_X4_manned ml_X5_114 im_X4_manned se_X4_manned rfl rfl (s0) ⟨_, rfl, rfl⟩ (kX4_manned hst (m0) (s0) (sst) (by omega) (by omega) (hso)) (Nat.le_of_ble_eq_true rfl) (Nat.le_of_ble_eq_true rfl) (by omega) (by omega) (Nat.le_of_ble_eq_true rfl) GX.no (pq ?_)
      show GW X 80 [some (.ref 40), some (.int (nI q)), some (.int (mbI st rc)), some (.int s7), some (.int (sumI fa rc)), some (.int (nI i6))] [.int (cntI st rc (nI i6)), .int s7] h n 0 0
      refine g_bipush (v := (nI 6)) hX dX5_counted_80 (by decide) ?_
      refine g_icmp_ne (tgt := 89) hX dX5_counted_82 (by decide) (fun c9 => ?_) (fun c9 => ?_)
      · refine g_iconst (v := (nI 0)) hX dX5_counted_89 (by decide) ?_
        refine g_iadd hX dX5_counted_90 ?_
        refine g_istore_n (i := 3) hX dX5_counted_91 rfl (Nat.le_of_ble_eq_true rfl) rfl ?_
        refine g_iinc (v := (nI (i6 + 1))) hX dX5_counted_92 rfl rfl (gn_inc _ _) ?_
        refine g_goto (tgt := 64) hX dX5_counted_95 (by decide) ?_
        refine g_cv ihi6 (by simp [gn_a0, gn_one, c5, c8, c9]) rfl
      · refine g_iconst (v := (nI 1)) hX dX5_counted_85 (by decide) ?_
        refine g_goto (tgt := 90) hX dX5_counted_86 (by decide) ?_
        refine g_iadd hX dX5_counted_90 ?_
        refine g_istore_n (i := 3) hX dX5_counted_91 rfl (Nat.le_of_ble_eq_true rfl) rfl ?_
        refine g_iinc (v := (nI (i6 + 1))) hX dX5_counted_92 rfl rfl (gn_inc _ _) ?_
        refine g_goto (tgt := 64) hX dX5_counted_95 (by decide) ?_
        refine g_cv ihi6 (by simp [gn_a0, gn_one, c5, c8, c9]) rfl
    · show GW X 64 [some (.ref 40), some (.int (nI q)), some (.int (mbI st rc)), some (.int (fullI st rc)), some (.int (sumI fa rc)), some (.int (nI 3))] [] h n 0 0
      refine g_iload hX dX5_counted_64 rfl ?_
      refine g_iconst (v := (nI 3)) hX dX5_counted_66 (by decide) ?_
      refine g_icmp_ge (tgt := 98) hX dX5_counted_67 (by decide) (fun _ => ?_) (fun c => absurd (by decide) c)
      refine g_bipush (v := (nI 9)) hX dX5_counted_98 (by decide) ?_
      refine g_newa_aI hX dX5_counted_100 w_arrI (9) rfl (by omega) (by omega) (by omega) ?_
      refine g_dup hX dX5_counted_102 rfl ?_
      refine g_iconst (v := (nI 0)) hX dX5_counted_103 (by decide) ?_
      refine g_aload_n hX dX5_counted_104 rfl rfl ?_
      refine g_getf hX dX5_counted_105 fl_X5_45 ((hs_ne (by omega)).trans (m0)) rfl ?_
      refine g_getf hX dX5_counted_108 fl_X5_171 ((hs_ne (by omega)).trans (s0)) rfl ?_
      refine g_iastore hX dX5_counted_111 (hs_eq _ _ _) (0) (by omega) rfl (by omega) ?_
      refine g_cg rfl hs_hs ?_
      refine g_dup hX dX5_counted_112 rfl ?_
      refine g_iconst (v := (nI 1)) hX dX5_counted_113 (by decide) ?_
      refine g_aload_n hX dX5_counted_114 rfl rfl ?_
      refine g_getf hX dX5_counted_115 fl_X5_56 ((hs_ne (by omega)).trans (m0)) rfl ?_
      refine g_iastore hX dX5_counted_118 (hs_eq _ _ _) (1) (by omega) rfl (by omega) ?_
      refine g_cg rfl hs_hs ?_
      refine g_dup hX dX5_counted_119 rfl ?_
      refine g_iconst (v := (nI 2)) hX dX5_counted_120 (by decide) ?_
      refine g_iload_n hX dX5_counted_121 rfl rfl ?_
      refine g_iastore hX dX5_counted_122 (hs_eq _ _ _) (2) (by omega) rfl (by omega) ?_
      refine g_cg rfl hs_hs ?_
      refine g_dup hX dX5_counted_123 rfl ?_
      refine g_iconst (v := (nI 3)) hX dX5_counted_124 (by decide) ?_
      refine g_aload_n hX dX5_counted_125 rfl rfl ?_
      refine g_getf hX dX5_counted_126 fl_X5_63 ((hs_ne (by omega)).trans (m0)) rfl ?_
      refine g_iastore hX dX5_counted_129 (hs_eq _ _ _) (3) (by omega) rfl (by omega) ?_
      refine g_cg rfl hs_hs ?_
      refine g_dup hX dX5_counted_130 rfl ?_
      refine g_iconst (v := (nI 4)) hX dX5_counted_131 (by decide) ?_
      refine g_iload_n hX dX5_counted_132 rfl rfl ?_
      refine g_iastore hX dX5_counted_133 (hs_eq _ _ _) (4) (by omega) rfl (by omega) ?_
      refine g_cg rfl hs_hs ?_
      refine g_dup hX dX5_counted_134 rfl ?_
      refine g_iconst (v := (nI 5)) hX dX5_counted_135 (by decide) ?_
      refine g_aload_n hX dX5_counted_136 rfl rfl ?_
      refine g_getf hX dX5_counted_137 fl_X5_159 ((hs_ne (by omega)).trans (m0)) rfl ?_
      refine g_iastore hX dX5_counted_140 (hs_eq _ _ _) (5) (by omega) rfl (by omega) ?_
      refine g_cg rfl hs_hs ?_
      refine g_dup hX dX5_counted_141 rfl ?_
      refine g_bipush (v := (nI 6)) hX dX5_counted_142 (by decide) ?_
      refine g_aload_n hX dX5_counted_144 rfl rfl ?_
      refine g_getf hX dX5_counted_145 fl_X5_162 ((hs_ne (by omega)).trans (m0)) rfl ?_
      refine g_iastore hX dX5_counted_148 (hs_eq _ _ _) (6) (by omega) rfl (by omega) ?_
      refine g_cg rfl hs_hs ?_
      refine g_dup hX dX5_counted_149 rfl ?_
      refine g_bipush (v := (nI 7)) hX dX5_counted_150 (by decide) ?_
      refine g_iload hX dX5_counted_152 rfl ?_
      refine g_iastore hX dX5_counted_154 (hs_eq _ _ _) (7) (by omega) rfl (by omega) ?_
      refine g_cg rfl hs_hs ?_
      refine g_dup hX dX5_counted_155 rfl ?_
      refine g_bipush (v := (nI 8)) hX dX5_counted_156 (by decide) ?_
      refine g_aload_n hX dX5_counted_158 rfl rfl ?_
      refine g_getf hX dX5_counted_159 fl_X5_45 ((hs_ne (by omega)).trans (m0)) rfl ?_
      refine g_callV (As := []) hX dX5_counted_162 cb_X4_allVotes ml_X5_165 im_X4_allVotes se_X4_allVotes rfl rfl ((hs_ne (by omega)).trans (s0)) ⟨_, rfl, rfl⟩ (kX4_allVotes hst ((hs_ne (by omega)).trans (m0)) ((hs_ne (by omega)).trans (s0)) ((hs_ne (by omega)).trans (svt)) (by omega)) (Nat.le_of_ble_eq_true rfl) (Nat.le_of_ble_eq_true rfl) (by omega) (by omega) (Nat.le_of_ble_eq_true rfl) GX.no (pq ?_)
      show GW X 165 [some (.ref 40), some (.int (nI q)), some (.int (mbI st rc)), some (.int (fullI st rc)), some (.int (sumI fa rc)), some (.int (nI 3))] [.int (sumI vt rc), .int (nI 8), .ref n, .ref n] (hs h n (aI 9 (upd (upd (upd (upd (upd (upd (upd (upd (fun _ => 0) 0 dy) 1 (nI rc)) 2 (mbI st rc)) 3 (nI mc)) 4 (fullI st rc)) 5 tch) 6 frs) 7 (sumI fa rc)))) (n + 1) 1 9
      refine g_iastore hX dX5_counted_165 (hs_eq _ _ _) (8) (by omega) rfl (by omega) ?_
      refine g_cg rfl hs_hs ?_
      refine g_astore hX dX5_counted_166 (Nat.le_of_ble_eq_true rfl) rfl ?_
      refine g_aload hX dX5_counted_168 rfl ?_
      refine g_iload_n hX dX5_counted_170 rfl rfl ?_
      refine g_iaload hX dX5_counted_171 (hs_eq _ _ _) (q) (by omega) rfl (by omega) ?_
      refine g_ireturn hX hr dX5_counted_172 (by omega) (by omega)  ?_
      exact ⟨by rcases (show q = 0 ∨ q = 1 ∨ q = 2 ∨ q = 3 ∨ q = 4 ∨ q = 5 ∨ q = 6 ∨ q = 7 ∨ q = 8 by omega) with rfl | rfl | rfl | rfl | rfl | rfl | rfl | rfl | rfl <;> rfl, rfl, fun j hj => (hs_ne (by omega)).trans (rfl)⟩
set_option maxRecDepth 20000 in
theorem kX5_count_w {l : Launch} {K : gw_K} (hst : l.stackTraces = false) {n : Nat} {h : gw_H} {rc mc : Nat} {thr tch frs len dy ady : Int32} {mn : Nat → Nat} {wd sk ws cs co dg rw_ go we vt ti fa st avt ati afa ast : Nat → Int32} {a : Int32} (m0 : h 40 = (oB 5 [.int thr, .int (nI rc), .ref 41, .ref 42, .ref 43, .int (nI mc), .ref 44, .ref 45, .int tch, .int frs, .ref 46, .ref 47, .int len, .ref 48, .ref 49, .ref 50, .ref 51, .ref 56])) (mwd : h 41 = (aI 20 wd)) (msk : h 42 = (aI 20 sk)) (mws : h 43 = (aI 18 ws)) (mmn : h 44 = (aI 5 (fun k => nI (mn k)))) (mcs : h 45 = (aI 60 cs)) (mco : h 46 = (aI 201 co)) (mdg : h 47 = (aI 201 dg)) (mrw : h 48 = (aI 6 rw_)) (mgo : h 49 = (aI 6 go)) (mwe : h 50 = (aI 6 we)) (s0 : h 51 = (oB 4 [.int dy, .ref (51 + 1), .ref (51 + 2), .ref (51 + 3), .ref (51 + 4), .ref 40])) (svt : h (51 + 1) = (aI 20 vt)) (sti : h (51 + 2) = (aI 20 ti)) (sfa : h (51 + 3) = (aI 20 fa)) (sst : h (51 + 4) = (aI 20 st)) (a0 : h 56 = (oB 4 [.int ady, .ref (56 + 1), .ref (56 + 2), .ref (56 + 3), .ref (56 + 4), .ref 40])) (avt : h (56 + 1) = (aI 20 avt)) (ati : h (56 + 2) = (aI 20 ati)) (afa : h (56 + 3) = (aI 20 afa)) (ast : h (56 + 4) = (aI 20 ast)) (hn62 : 62 ≤ n) (hz : a < 0 ∨ nI 9 ≤ a) : Ctr l K mX5_count [.ref 40, .int a] h n 0 0 (PM (some (.int (nI 0))) h n (nI 1) rc mc tch frs) (PX0) := by
  refine Ctr.of hst pn_X5_count (Nat.le_of_ble_eq_true rfl) (fun X hX hr hE => ?_)
  have hX : FX l K X cX5_count RX5 2 48 0 0 := hX
  show GW X 0 [some (.ref 40), some (.int a)] [] h n 0 0
  refine g_aload_n hX dX5_count_0 rfl rfl ?_
  refine g_iconst (v := (nI 0)) hX dX5_count_1 (by decide) ?_
  refine g_putI hX dX5_count_2 fl_X5_52 (m0) (Nat.le_of_ble_eq_true rfl) ?_
  show GW X 5 [some (.ref 40), some (.int a)] [] (hs h 40 (oB 5 [.int (nI 0), .int (nI rc), .ref 41, .ref 42, .ref 43, .int (nI mc), .ref 44, .ref 45, .int tch, .int frs, .ref 46, .ref 47, .int len, .ref 48, .ref 49, .ref 50, .ref 51, .ref 56])) n 0 0
  refine g_iload_n hX dX5_count_5 rfl rfl ?_
  refine g_iconst (v := (nI 0)) hX dX5_count_6 (by decide) ?_
  refine g_bipush (v := (nI 8)) hX dX5_count_7 (by decide) ?_
  refine g_callS (As := [.int a, .int (nI 0), .int (nI 8)]) hX dX5_count_9 cb_X5_isIn ml_X5_59 st_X5_isIn rfl rfl (kX5_isIn_x hst (hz.imp id (gn_up (by omega)))) (Nat.le_of_ble_eq_true rfl) (Nat.le_of_ble_eq_true rfl) (by omega) (by omega) (Nat.le_of_ble_eq_true rfl) GX.no (pq ?_)
  show GW X 12 [some (.ref 40), some (.int a)] [.int (nI 0)] (hs h 40 (oB 5 [.int (nI 0), .int (nI rc), .ref 41, .ref 42, .ref 43, .int (nI mc), .ref 44, .ref 45, .int tch, .int frs, .ref 46, .ref 47, .int len, .ref 48, .ref 49, .ref 50, .ref 51, .ref 56])) n 0 0
  refine g_if_eq (tgt := 23) hX dX5_count_12 (by decide) (fun _ => ?_) (fun c => absurd (by decide) c)
  refine g_aload_n hX dX5_count_23 rfl rfl ?_
  refine g_iconst (v := (nI 1)) hX dX5_count_24 (by decide) ?_
  refine g_callV (As := [.int (nI 1)]) hX dX5_count_25 cb_X5_no ml_X5_84 im_X5_no se_X5_no rfl rfl (hs_eq _ _ _) ⟨_, rfl, rfl⟩ (kX5_no hst (hs_eq _ _ _) ) (Nat.le_of_ble_eq_true rfl) (Nat.le_of_ble_eq_true rfl) (by omega) (by omega) (Nat.le_of_ble_eq_true rfl) GX.no (pq ?_)
  show GW X 28 [some (.ref 40), some (.int a)] [.int (nI 0)] (hs (hs h 40 (oB 5 [.int (nI 0), .int (nI rc), .ref 41, .ref 42, .ref 43, .int (nI mc), .ref 44, .ref 45, .int tch, .int frs, .ref 46, .ref 47, .int len, .ref 48, .ref 49, .ref 50, .ref 51, .ref 56])) 40 (oB 5 [.int (nI 1), .int (nI rc), .ref 41, .ref 42, .ref 43, .int (nI mc), .ref 44, .ref 45, .int tch, .int frs, .ref 46, .ref 47, .int len, .ref 48, .ref 49, .ref 50, .ref 51, .ref 56])) n 0 0
  refine g_cg rfl hs_hs ?_
  refine g_ireturn hX hr dX5_count_28 (Nat.le_refl _) (Nat.le_refl _)  ?_
  exact ⟨rfl, rfl, fun j hj => (hs_ne (by omega)).trans (rfl), ⟨_, _, _, _, _, _, _, _, _, _, _, (hs_eq _ _ _), ((hs_ne (by omega)).trans (mco)), ((hs_ne (by omega)).trans (mdg)), ((hs_ne (by omega)).trans (mrw)), ((hs_ne (by omega)).trans (mgo)), ((hs_ne (by omega)).trans (mwe)), ((hs_ne (by omega)).trans (a0)), ((hs_ne (by omega)).trans (avt)), ((hs_ne (by omega)).trans (ati)), ((hs_ne (by omega)).trans (afa)), ((hs_ne (by omega)).trans (ast))⟩⟩
set_option maxRecDepth 20000 in
theorem kX5_count {l : Launch} {K : gw_K} (hst : l.stackTraces = false) {n : Nat} {h : gw_H} {rc mc : Nat} {thr tch frs len dy ady : Int32} {mn : Nat → Nat} {wd sk ws cs co dg rw_ go we vt ti fa st avt ati afa ast : Nat → Int32} {q : Nat} (m0 : h 40 = (oB 5 [.int thr, .int (nI rc), .ref 41, .ref 42, .ref 43, .int (nI mc), .ref 44, .ref 45, .int tch, .int frs, .ref 46, .ref 47, .int len, .ref 48, .ref 49, .ref 50, .ref 51, .ref 56])) (mwd : h 41 = (aI 20 wd)) (msk : h 42 = (aI 20 sk)) (mws : h 43 = (aI 18 ws)) (mmn : h 44 = (aI 5 (fun k => nI (mn k)))) (mcs : h 45 = (aI 60 cs)) (mco : h 46 = (aI 201 co)) (mdg : h 47 = (aI 201 dg)) (mrw : h 48 = (aI 6 rw_)) (mgo : h 49 = (aI 6 go)) (mwe : h 50 = (aI 6 we)) (s0 : h 51 = (oB 4 [.int dy, .ref (51 + 1), .ref (51 + 2), .ref (51 + 3), .ref (51 + 4), .ref 40])) (svt : h (51 + 1) = (aI 20 vt)) (sti : h (51 + 2) = (aI 20 ti)) (sfa : h (51 + 3) = (aI 20 fa)) (sst : h (51 + 4) = (aI 20 st)) (a0 : h 56 = (oB 4 [.int ady, .ref (56 + 1), .ref (56 + 2), .ref (56 + 3), .ref (56 + 4), .ref 40])) (avt : h (56 + 1) = (aI 20 avt)) (ati : h (56 + 2) = (aI 20 ati)) (afa : h (56 + 3) = (aI 20 afa)) (ast : h (56 + 4) = (aI 20 ast)) (hn62 : 62 ≤ n) (hrc : rc ≤ 20) (hq : q < 9) (hso : ∀ r, r < rc → seatOK (st r)) : Ctr l K mX5_count [.ref 40, .int (nI q)] h n 1 9 (PM (some (.int (mcI vt fa st rc mc dy tch frs q))) h (n + 1) (nI 0) rc mc tch frs) (PX0) := by
  refine Ctr.of hst pn_X5_count (Nat.le_of_ble_eq_true rfl) (fun X hX hr hE => ?_)
  have hX : FX l K X cX5_count RX5 2 48 1 9 := hX
  show GW X 0 [some (.ref 40), some (.int (nI q))] [] h n 0 0
  refine g_aload_n hX dX5_count_0 rfl rfl ?_
  refine g_iconst (v := (nI 0)) hX dX5_count_1 (by decide) ?_
  refine g_putI hX dX5_count_2 fl_X5_52 (m0) (Nat.le_of_ble_eq_true rfl) ?_
  show GW X 5 [some (.ref 40), some (.int (nI q))] [] (hs h 40 (oB 5 [.int (nI 0), .int (nI rc), .ref 41, .ref 42, .ref 43, .int (nI mc), .ref 44, .ref 45, .int tch, .int frs, .ref 46, .ref 47, .int len, .ref 48, .ref 49, .ref 50, .ref 51, .ref 56])) n 0 0
  refine g_iload_n hX dX5_count_5 rfl rfl ?_
  refine g_iconst (v := (nI 0)) hX dX5_count_6 (by decide) ?_
  refine g_bipush (v := (nI 8)) hX dX5_count_7 (by decide) ?_
  refine g_callS (As := [.int (nI q), .int (nI 0), .int (nI 8)]) hX dX5_count_9 cb_X5_isIn ml_X5_59 st_X5_isIn rfl rfl (kX5_isIn hst (gn_okW (by omega) (by omega) (by omega))) (Nat.le_of_ble_eq_true rfl) (Nat.le_of_ble_eq_true rfl) (by omega) (by omega) (Nat.le_of_ble_eq_true rfl) GX.no (pq ?_)
  show GW X 12 [some (.ref 40), some (.int (nI q))] [.int (nI 1)] (hs h 40 (oB 5 [.int (nI 0), .int (nI rc), .ref 41, .ref 42, .ref 43, .int (nI mc), .ref 44, .ref 45, .int tch, .int frs, .ref 46, .ref 47, .int len, .ref 48, .ref 49, .ref 50, .ref 51, .ref 56])) n 0 0
  refine g_if_eq (tgt := 23) hX dX5_count_12 (by decide) (fun c => absurd c (by decide)) (fun _ => ?_)
  refine g_aload_n hX dX5_count_15 rfl rfl ?_
  refine g_iload_n hX dX5_count_16 rfl rfl ?_
  refine g_callV (As := [.int (nI q)]) hX dX5_count_17 cb_X5_counted ml_X5_174 im_X5_counted se_X5_counted rfl rfl (hs_eq _ _ _) ⟨_, rfl, rfl⟩ (kX5_counted hst (hs_eq _ _ _) ((hs_ne (by omega)).trans (s0)) ((hs_ne (by omega)).trans (svt)) ((hs_ne (by omega)).trans (sti)) ((hs_ne (by omega)).trans (sfa)) ((hs_ne (by omega)).trans (sst)) (by omega) (by omega) (by omega) hso) (Nat.le_of_ble_eq_true rfl) (Nat.le_of_ble_eq_true rfl) (by omega) (by omega) (Nat.le_of_ble_eq_true rfl) GX.no ?_
  rintro _ h1 _ - ⟨rfl, rfl, hk2⟩
  show GW X 20 [some (.ref 40), some (.int (nI q))] [.int (mcI vt fa st rc mc dy tch frs q)] h1 (n + 1) 1 9
  refine g_goto (tgt := 28) hX dX5_count_20 (by decide) ?_
  refine g_ireturn hX hr dX5_count_28 (by omega) (by omega)  ?_
  exact ⟨rfl, rfl, fun j hj => (hk2 j (by omega)).trans ((hs_ne (by omega)).trans (rfl)), ⟨_, _, _, _, _, _, _, _, _, _, _, ((hk2 _ (by omega)).trans (hs_eq _ _ _)), ((hk2 _ (by omega)).trans ((hs_ne (by omega)).trans (mco))), ((hk2 _ (by omega)).trans ((hs_ne (by omega)).trans (mdg))), ((hk2 _ (by omega)).trans ((hs_ne (by omega)).trans (mrw))), ((hk2 _ (by omega)).trans ((hs_ne (by omega)).trans (mgo))), ((hk2 _ (by omega)).trans ((hs_ne (by omega)).trans (mwe))), ((hk2 _ (by omega)).trans ((hs_ne (by omega)).trans (a0))), ((hk2 _ (by omega)).trans ((hs_ne (by omega)).trans (avt))), ((hk2 _ (by omega)).trans ((hs_ne (by omega)).trans (ati))), ((hk2 _ (by omega)).trans ((hs_ne (by omega)).trans (afa))), ((hk2 _ (by omega)).trans ((hs_ne (by omega)).trans (ast)))⟩⟩
set_option maxRecDepth 20000 in
theorem kX5_mean {l : Launch} {K : gw_K} (hst : l.stackTraces = false) {n : Nat} {h : gw_H} {rc mc : Nat} {thr tch frs len dy ady : Int32} {mn : Nat → Nat} {wd sk ws cs co dg rw_ go we vt ti fa st avt ati afa ast : Nat → Int32}  (m0 : h 40 = (oB 5 [.int thr, .int (nI rc), .ref 41, .ref 42, .ref 43, .int (nI mc), .ref 44, .ref 45, .int tch, .int frs, .ref 46, .ref 47, .int len, .ref 48, .ref 49, .ref 50, .ref 51, .ref 56])) (mwd : h 41 = (aI 20 wd)) (msk : h 42 = (aI 20 sk)) (mws : h 43 = (aI 18 ws)) (mmn : h 44 = (aI 5 (fun k => nI (mn k)))) (mcs : h 45 = (aI 60 cs)) (mco : h 46 = (aI 201 co)) (mdg : h 47 = (aI 201 dg)) (mrw : h 48 = (aI 6 rw_)) (mgo : h 49 = (aI 6 go)) (mwe : h 50 = (aI 6 we)) (s0 : h 51 = (oB 4 [.int dy, .ref (51 + 1), .ref (51 + 2), .ref (51 + 3), .ref (51 + 4), .ref 40])) (svt : h (51 + 1) = (aI 20 vt)) (sti : h (51 + 2) = (aI 20 ti)) (sfa : h (51 + 3) = (aI 20 fa)) (sst : h (51 + 4) = (aI 20 st)) (a0 : h 56 = (oB 4 [.int ady, .ref (56 + 1), .ref (56 + 2), .ref (56 + 3), .ref (56 + 4), .ref 40])) (avt : h (56 + 1) = (aI 20 avt)) (ati : h (56 + 2) = (aI 20 ati)) (afa : h (56 + 3) = (aI 20 afa)) (ast : h (56 + 4) = (aI 20 ast)) (hn62 : 62 ≤ n) (hrc : rc ≤ 20) (hnan : ¬ (mskI st sk rc).1 = 0 → vf_n64 (FP.ddiv (FP.i2d (mskI st sk rc).2) (FP.i2d (mskI st sk rc).1))) : Ctr l K mX5_mean [.ref 40] h n 0 0 (PM (some (.double (if (mskI st sk rc).1 = 0 then 0 else FP.ddiv (FP.i2d (mskI st sk rc).2) (FP.i2d (mskI st sk rc).1)))) h n (nI 0) rc mc tch frs) (PX0) := by
  refine Ctr.of hst pn_X5_mean (Nat.le_of_ble_eq_true rfl) (fun X hX hr hE => ?_)
  have hX : FX l K X cX5_mean RX5 0 0 0 0 := hX
  show GW X 0 [some (.ref 40), none, none, none] [] h n 0 0
  refine g_aload_n hX dX5_mean_0 rfl rfl ?_
  refine g_iconst (v := (nI 0)) hX dX5_mean_1 (by decide) ?_
  refine g_putI hX dX5_mean_2 fl_X5_52 (m0) (Nat.le_of_ble_eq_true rfl) ?_
  show GW X 5 [some (.ref 40), none, none, none] [] (hs h 40 (oB 5 [.int (nI 0), .int (nI rc), .ref 41, .ref 42, .ref 43, .int (nI mc), .ref 44, .ref 45, .int tch, .int frs, .ref 46, .ref 47, .int len, .ref 48, .ref 49, .ref 50, .ref 51, .ref 56])) n 0 0
  refine g_iconst (v := (nI 0)) hX dX5_mean_5 (by decide) ?_
  refine g_istore_n (i := 1) hX dX5_mean_6 rfl (Nat.le_of_ble_eq_true rfl) rfl ?_
  refine g_iconst (v := (nI 0)) hX dX5_mean_7 (by decide) ?_
  refine g_istore_n (i := 2) hX dX5_mean_8 rfl (Nat.le_of_ble_eq_true rfl) rfl ?_
  refine g_iconst (v := (nI 0)) hX dX5_mean_9 (by decide) ?_
  refine g_istore_n (i := 3) hX dX5_mean_10 rfl (Nat.le_of_ble_eq_true rfl) rfl ?_
  refine g_cg (L' := [some (.ref 40), some (.int ((nI 0, nI 0).1)), some (.int ((nI 0, nI 0).2)), some (.int (nI 0))]) (h' := (hs h 40 (oB 5 [.int (nI 0), .int (nI rc), .ref 41, .ref 42, .ref 43, .int (nI mc), .ref 44, .ref 45, .int tch, .int frs, .ref 46, .ref 47, .int len, .ref 48, .ref 49, .ref 50, .ref 51, .ref 56]))) (by rfl) (by rfl) ?_
  refine g_for (P := fun (i : Nat) (s : Int32 × Int32) => GW X 11 [some (.ref 40), some (.int s.1), some (.int s.2), some (.int (nI i))] [] (hs h 40 (oB 5 [.int (nI 0), .int (nI rc), .ref 41, .ref 42, .ref 43, .int (nI mc), .ref 44, .ref 45, .int tch, .int frs, .ref 46, .ref 47, .int len, .ref 48, .ref 49, .ref 50, .ref 51, .ref 56])) n 0 0) (step := fun i s => if st i < 0 then s else (s.1 + nI 1, s.2 + sk i)) rc (nI 0, nI 0) ?_ ?_
  · intro i1 ⟨bs2, fs2⟩ hi1 es2 ihi1
    have ihi1 : GW X 11 [some (.ref 40), some (.int ((if st i1 < 0 then (bs2, fs2) else (bs2 + nI 1, fs2 + sk i1)).1)), some (.int ((if st i1 < 0 then (bs2, fs2) else (bs2 + nI 1, fs2 + sk i1)).2)), some (.int (nI (i1 + 1)))] [] (hs h 40 (oB 5 [.int (nI 0), .int (nI rc), .ref 41, .ref 42, .ref 43, .int (nI mc), .ref 44, .ref 45, .int tch, .int frs, .ref 46, .ref 47, .int len, .ref 48, .ref 49, .ref 50, .ref 51, .ref 56])) n 0 0 := ihi1
    refine g_iload_n hX dX5_mean_11 rfl rfl ?_
    refine g_aload_n hX dX5_mean_12 rfl rfl ?_
    refine g_getf hX dX5_mean_13 fl_X5_56 (hs_eq _ _ _) rfl ?_
    refine g_icmp_geN (tgt := 52) hX dX5_mean_16 (by decide) (by omega) (fun c3 => absurd c3 (by omega)) (fun c3 => ?_)
    refine g_aload_n hX dX5_mean_19 rfl rfl ?_
    refine g_getf hX dX5_mean_20 fl_X5_45 (hs_eq _ _ _) rfl ?_
    refine g_getf hX dX5_mean_23 fl_X5_91 ((hs_ne (by omega)).trans (s0)) rfl ?_
    refine g_iload_n hX dX5_mean_26 rfl rfl ?_
    refine g_iaload hX dX5_mean_27 ((hs_ne (by omega)).trans (sst)) (i1) (by omega) rfl (by omega) ?_
    refine g_if_ge (tgt := 34) hX dX5_mean_28 (by decide) (fun c4 => ?_) (fun c4 => ?_)
    · refine g_iinc (v := (bs2 + 1)) hX dX5_mean_34 rfl rfl (by rfl) ?_
      refine g_iload_n hX dX5_mean_37 rfl rfl ?_
      refine g_aload_n hX dX5_mean_38 rfl rfl ?_
      refine g_getf hX dX5_mean_39 fl_X5_13 (hs_eq _ _ _) rfl ?_
      refine g_iload_n hX dX5_mean_42 rfl rfl ?_
      refine g_iaload hX dX5_mean_43 ((hs_ne (by omega)).trans (msk)) (i1) (by omega) rfl (by omega) ?_
      refine g_iadd hX dX5_mean_44 ?_
      refine g_istore_n (i := 2) hX dX5_mean_45 rfl (Nat.le_of_ble_eq_true rfl) rfl ?_
      refine g_iinc (v := (nI (i1 + 1))) hX dX5_mean_46 rfl rfl (gn_inc _ _) ?_
      refine g_goto (tgt := 11) hX dX5_mean_49 (by decide) ?_
      refine g_cv ihi1 (by rw [if_neg (gn_ile.mpr c4)]; rfl) rfl
    · refine g_goto (tgt := 46) hX dX5_mean_31 (by decide) ?_
      refine g_iinc (v := (nI (i1 + 1))) hX dX5_mean_46 rfl rfl (gn_inc _ _) ?_
      refine g_goto (tgt := 11) hX dX5_mean_49 (by decide) ?_
      refine g_cv ihi1 (by rw [if_pos (gn_ilt.mp c4)]; rfl) rfl
  · refine g_iload_n hX dX5_mean_11 rfl rfl ?_
    refine g_aload_n hX dX5_mean_12 rfl rfl ?_
    refine g_getf hX dX5_mean_13 fl_X5_56 (hs_eq _ _ _) rfl ?_
    refine g_icmp_geN (tgt := 52) hX dX5_mean_16 (by decide) (by omega) (fun c5 => ?_) (fun c5 => absurd c5 (by omega))
    show GW X 52 [some (.ref 40), some (.int ((mskI st sk rc).1)), some (.int ((mskI st sk rc).2)), some (.int (nI rc))] [] (hs h 40 (oB 5 [.int (nI 0), .int (nI rc), .ref 41, .ref 42, .ref 43, .int (nI mc), .ref 44, .ref 45, .int tch, .int frs, .ref 46, .ref 47, .int len, .ref 48, .ref 49, .ref 50, .ref 51, .ref 56])) n 0 0
    refine g_iload_n hX dX5_mean_52 rfl rfl ?_
    refine g_if_ne (tgt := 60) hX dX5_mean_53 (by decide) (fun c6 => ?_) (fun c6 => ?_)
    · refine g_iload_n hX dX5_mean_60 rfl rfl ?_
      refine g_i2d hX dX5_mean_61 ?_
      refine g_iload_n hX dX5_mean_62 rfl rfl ?_
      refine g_i2d hX dX5_mean_63 ?_
      refine g_ddiv hX dX5_mean_64 (hnan c6) ?_
      refine g_dreturn hX hr dX5_mean_65 (Nat.le_refl _) (Nat.le_refl _)  ?_
      exact ⟨by rw [if_neg c6], rfl, fun j hj => (hs_ne (by omega)).trans (rfl), ⟨_, _, _, _, _, _, _, _, _, _, _, (hs_eq _ _ _), ((hs_ne (by omega)).trans (mco)), ((hs_ne (by omega)).trans (mdg)), ((hs_ne (by omega)).trans (mrw)), ((hs_ne (by omega)).trans (mgo)), ((hs_ne (by omega)).trans (mwe)), ((hs_ne (by omega)).trans (a0)), ((hs_ne (by omega)).trans (avt)), ((hs_ne (by omega)).trans (ati)), ((hs_ne (by omega)).trans (afa)), ((hs_ne (by omega)).trans (ast))⟩⟩
    · refine g_dconst0 hX dX5_mean_56 ?_
      refine g_goto (tgt := 65) hX dX5_mean_57 (by decide) ?_
      refine g_dreturn hX hr dX5_mean_65 (Nat.le_refl _) (Nat.le_refl _)  ?_
      exact ⟨by rw [if_pos c6], rfl, fun j hj => (hs_ne (by omega)).trans (rfl), ⟨_, _, _, _, _, _, _, _, _, _, _, (hs_eq _ _ _), ((hs_ne (by omega)).trans (mco)), ((hs_ne (by omega)).trans (mdg)), ((hs_ne (by omega)).trans (mrw)), ((hs_ne (by omega)).trans (mgo)), ((hs_ne (by omega)).trans (mwe)), ((hs_ne (by omega)).trans (a0)), ((hs_ne (by omega)).trans (avt)), ((hs_ne (by omega)).trans (ati)), ((hs_ne (by omega)).trans (afa)), ((hs_ne (by omega)).trans (ast))⟩⟩
set_option maxRecDepth 20000 in
theorem kX5_pass_d {l : Launch} {K : gw_K} (hst : l.stackTraces = false) {n : Nat} {h : gw_H} {rc mc : Nat} {thr tch frs len dy ady : Int32} {mn : Nat → Nat} {wd sk ws cs co dg rw_ go we vt ti fa st avt ati afa ast : Nat → Int32} {a : Int32} (m0 : h 40 = (oB 5 [.int thr, .int (nI rc), .ref 41, .ref 42, .ref 43, .int (nI mc), .ref 44, .ref 45, .int tch, .int frs, .ref 46, .ref 47, .int len, .ref 48, .ref 49, .ref 50, .ref 51, .ref 56])) (mwd : h 41 = (aI 20 wd)) (msk : h 42 = (aI 20 sk)) (mws : h 43 = (aI 18 ws)) (mmn : h 44 = (aI 5 (fun k => nI (mn k)))) (mcs : h 45 = (aI 60 cs)) (mco : h 46 = (aI 201 co)) (mdg : h 47 = (aI 201 dg)) (mrw : h 48 = (aI 6 rw_)) (mgo : h 49 = (aI 6 go)) (mwe : h 50 = (aI 6 we)) (s0 : h 51 = (oB 4 [.int dy, .ref (51 + 1), .ref (51 + 2), .ref (51 + 3), .ref (51 + 4), .ref 40])) (svt : h (51 + 1) = (aI 20 vt)) (sti : h (51 + 2) = (aI 20 ti)) (sfa : h (51 + 3) = (aI 20 fa)) (sst : h (51 + 4) = (aI 20 st)) (a0 : h 56 = (oB 4 [.int ady, .ref (56 + 1), .ref (56 + 2), .ref (56 + 3), .ref (56 + 4), .ref 40])) (avt : h (56 + 1) = (aI 20 avt)) (ati : h (56 + 2) = (aI 20 ati)) (afa : h (56 + 3) = (aI 20 afa)) (ast : h (56 + 4) = (aI 20 ast)) (hn62 : 62 ≤ n) (hz : a < nI 1 ∨ nI 60 < a) : Ctr l K mX5_pass [.ref 40, .int a] h n 0 0 (PM (some (.int (nI 0))) h n (nI 1) rc mc tch frs) (PX0) := by
  refine Ctr.of hst pn_X5_pass (Nat.le_of_ble_eq_true rfl) (fun X hX hr hE => ?_)
  have hX : FX l K X cX5_pass RX5 3 67 0 0 := hX
  show GW X 0 [some (.ref 40), some (.int a), none, none, none] [] h n 0 0
  refine g_aload_n hX dX5_pass_0 rfl rfl ?_
  refine g_iconst (v := (nI 0)) hX dX5_pass_1 (by decide) ?_
  refine g_putI hX dX5_pass_2 fl_X5_52 (m0) (Nat.le_of_ble_eq_true rfl) ?_
  show GW X 5 [some (.ref 40), some (.int a), none, none, none] [] (hs h 40 (oB 5 [.int (nI 0), .int (nI rc), .ref 41, .ref 42, .ref 43, .int (nI mc), .ref 44, .ref 45, .int tch, .int frs, .ref 46, .ref 47, .int len, .ref 48, .ref 49, .ref 50, .ref 51, .ref 56])) n 0 0
  refine g_iload_n hX dX5_pass_5 rfl rfl ?_
  refine g_iconst (v := (nI 1)) hX dX5_pass_6 (by decide) ?_
  refine g_bipush (v := (nI 60)) hX dX5_pass_7 (by decide) ?_
  refine g_callS (As := [.int a, .int (nI 1), .int (nI 60)]) hX dX5_pass_9 cb_X5_isIn ml_X5_59 st_X5_isIn rfl rfl (kX5_isIn_x hst (hz)) (Nat.le_of_ble_eq_true rfl) (Nat.le_of_ble_eq_true rfl) (by omega) (by omega) (Nat.le_of_ble_eq_true rfl) GX.no (pq ?_)
  show GW X 12 [some (.ref 40), some (.int a), none, none, none] [.int (nI 0)] (hs h 40 (oB 5 [.int (nI 0), .int (nI rc), .ref 41, .ref 42, .ref 43, .int (nI mc), .ref 44, .ref 45, .int tch, .int frs, .ref 46, .ref 47, .int len, .ref 48, .ref 49, .ref 50, .ref 51, .ref 56])) n 0 0
  refine g_if_ne (tgt := 21) hX dX5_pass_12 (by decide) (fun c => absurd c (by decide)) (fun _ => ?_)
  refine g_aload_n hX dX5_pass_15 rfl rfl ?_
  refine g_iconst (v := (nI 1)) hX dX5_pass_16 (by decide) ?_
  refine g_callV (As := [.int (nI 1)]) hX dX5_pass_17 cb_X5_no ml_X5_84 im_X5_no se_X5_no rfl rfl (hs_eq _ _ _) ⟨_, rfl, rfl⟩ (kX5_no hst (hs_eq _ _ _) ) (Nat.le_of_ble_eq_true rfl) (Nat.le_of_ble_eq_true rfl) (by omega) (by omega) (Nat.le_of_ble_eq_true rfl) GX.no (pq ?_)
  show GW X 20 [some (.ref 40), some (.int a), none, none, none] [.int (nI 0)] (hs (hs h 40 (oB 5 [.int (nI 0), .int (nI rc), .ref 41, .ref 42, .ref 43, .int (nI mc), .ref 44, .ref 45, .int tch, .int frs, .ref 46, .ref 47, .int len, .ref 48, .ref 49, .ref 50, .ref 51, .ref 56])) 40 (oB 5 [.int (nI 1), .int (nI rc), .ref 41, .ref 42, .ref 43, .int (nI mc), .ref 44, .ref 45, .int tch, .int frs, .ref 46, .ref 47, .int len, .ref 48, .ref 49, .ref 50, .ref 51, .ref 56])) n 0 0
  refine g_cg rfl hs_hs ?_
  refine g_ireturn hX hr dX5_pass_20 (Nat.le_refl _) (Nat.le_refl _)  ?_
  exact ⟨rfl, rfl, fun j hj => (hs_ne (by omega)).trans (rfl), ⟨_, _, _, _, _, _, _, _, _, _, _, (hs_eq _ _ _), ((hs_ne (by omega)).trans (mco)), ((hs_ne (by omega)).trans (mdg)), ((hs_ne (by omega)).trans (mrw)), ((hs_ne (by omega)).trans (mgo)), ((hs_ne (by omega)).trans (mwe)), ((hs_ne (by omega)).trans (a0)), ((hs_ne (by omega)).trans (avt)), ((hs_ne (by omega)).trans (ati)), ((hs_ne (by omega)).trans (afa)), ((hs_ne (by omega)).trans (ast))⟩⟩
set_option maxRecDepth 20000 in
theorem kX5_pass {l : Launch} {K : gw_K} (hst : l.stackTraces = false) {n : Nat} {h : gw_H} {rc mc : Nat} {thr tch frs len dy ady : Int32} {mn : Nat → Nat} {wd sk ws cs co dg rw_ go we vt ti fa st avt ati afa ast : Nat → Int32} {d : Nat} (m0 : h 40 = (oB 5 [.int thr, .int (nI rc), .ref 41, .ref 42, .ref 43, .int (nI mc), .ref 44, .ref 45, .int tch, .int frs, .ref 46, .ref 47, .int len, .ref 48, .ref 49, .ref 50, .ref 51, .ref 56])) (mwd : h 41 = (aI 20 wd)) (msk : h 42 = (aI 20 sk)) (mws : h 43 = (aI 18 ws)) (mmn : h 44 = (aI 5 (fun k => nI (mn k)))) (mcs : h 45 = (aI 60 cs)) (mco : h 46 = (aI 201 co)) (mdg : h 47 = (aI 201 dg)) (mrw : h 48 = (aI 6 rw_)) (mgo : h 49 = (aI 6 go)) (mwe : h 50 = (aI 6 we)) (s0 : h 51 = (oB 4 [.int dy, .ref (51 + 1), .ref (51 + 2), .ref (51 + 3), .ref (51 + 4), .ref 40])) (svt : h (51 + 1) = (aI 20 vt)) (sti : h (51 + 2) = (aI 20 ti)) (sfa : h (51 + 3) = (aI 20 fa)) (sst : h (51 + 4) = (aI 20 st)) (a0 : h 56 = (oB 4 [.int ady, .ref (56 + 1), .ref (56 + 2), .ref (56 + 3), .ref (56 + 4), .ref 40])) (avt : h (56 + 1) = (aI 20 avt)) (ati : h (56 + 2) = (aI 20 ati)) (afa : h (56 + 3) = (aI 20 afa)) (ast : h (56 + 4) = (aI 20 ast)) (hn62 : 62 ≤ n) (hrc : rc ≤ 20) (hsi : seatI st rc) (hvp : ∀ r, r < rc → 0 ≤ vt r) (hd1 : 1 ≤ d) (hd60 : d ≤ 60) : Ctr l K mX5_pass [.ref 40, .int (nI d)] h n 1 20 (PM (some (.int (movedI (daysI wd vt ws rc d (ti, st, dy)).2.1 st rc))) (hs (hs (hs h 51 (oB 4 [.int ((daysI wd vt ws rc d (ti, st, dy)).2.2), .ref (51 + 1), .ref (51 + 2), .ref (51 + 3), .ref (51 + 4), .ref 40])) (51 + 2) (aI 20 ((daysI wd vt ws rc d (ti, st, dy)).1))) (51 + 4) (aI 20 ((daysI wd vt ws rc d (ti, st, dy)).2.1))) (n + 1) (nI 0) rc mc tch frs) (PX0) := by
  refine Ctr.of hst pn_X5_pass (Nat.le_of_ble_eq_true rfl) (fun X hX hr hE => ?_)
  have hX : FX l K X cX5_pass RX5 3 67 1 20 := hX
  show GW X 0 [some (.ref 40), some (.int (nI d)), none, none, none] [] h n 0 0
  refine g_aload_n hX dX5_pass_0 rfl rfl ?_
  refine g_iconst (v := (nI 0)) hX dX5_pass_1 (by decide) ?_
  refine g_putI hX dX5_pass_2 fl_X5_52 (m0) (Nat.le_of_ble_eq_true rfl) ?_
  show GW X 5 [some (.ref 40), some (.int (nI d)), none, none, none] [] (hs h 40 (oB 5 [.int (nI 0), .int (nI rc), .ref 41, .ref 42, .ref 43, .int (nI mc), .ref 44, .ref 45, .int tch, .int frs, .ref 46, .ref 47, .int len, .ref 48, .ref 49, .ref 50, .ref 51, .ref 56])) n 0 0
  refine g_iload_n hX dX5_pass_5 rfl rfl ?_
  refine g_iconst (v := (nI 1)) hX dX5_pass_6 (by decide) ?_
  refine g_bipush (v := (nI 60)) hX dX5_pass_7 (by decide) ?_
  refine g_callS (As := [.int (nI d), .int (nI 1), .int (nI 60)]) hX dX5_pass_9 cb_X5_isIn ml_X5_59 st_X5_isIn rfl rfl (kX5_isIn hst (gn_okW hd1 hd60 (by omega))) (Nat.le_of_ble_eq_true rfl) (Nat.le_of_ble_eq_true rfl) (by omega) (by omega) (Nat.le_of_ble_eq_true rfl) GX.no (pq ?_)
  show GW X 12 [some (.ref 40), some (.int (nI d)), none, none, none] [.int (nI 1)] (hs h 40 (oB 5 [.int (nI 0), .int (nI rc), .ref 41, .ref 42, .ref 43, .int (nI mc), .ref 44, .ref 45, .int tch, .int frs, .ref 46, .ref 47, .int len, .ref 48, .ref 49, .ref 50, .ref 51, .ref 56])) n 0 0
  refine g_if_ne (tgt := 21) hX dX5_pass_12 (by decide) (fun _ => ?_) (fun c => absurd c (by decide))
  refine g_aload_n hX dX5_pass_21 rfl rfl ?_
  refine g_getf hX dX5_pass_22 fl_X5_45 (hs_eq _ _ _) rfl ?_
  refine g_getf hX dX5_pass_25 fl_X5_91 ((hs_ne (by omega)).trans (s0)) rfl ?_
  refine g_clone hX dX5_pass_28 w_clL ((hs_ne (by omega)).trans (sst)) (Nat.le_of_ble_eq_true rfl) (Nat.le_of_ble_eq_true rfl) (by omega) (by omega) ?_
  refine g_castI hX dX5_pass_31 kl_X5_178 (hs_eq _ _ _) ?_
  refine g_astore_n (i := 2) hX dX5_pass_34 rfl (Nat.le_of_ble_eq_true rfl) rfl ?_
  refine g_aload_n hX dX5_pass_35 rfl rfl ?_
  refine g_getf hX dX5_pass_36 fl_X5_45 ((hs_ne (by omega)).trans (hs_eq _ _ _)) rfl ?_
  refine g_iload_n hX dX5_pass_39 rfl rfl ?_
  refine g_callV (As := [.int (nI d)]) hX dX5_pass_40 cb_X4_pass_ ml_X5_182 im_X4_pass_ se_X4_pass_ rfl rfl ((hs_ne (by omega)).trans ((hs_ne (by omega)).trans (s0))) ⟨_, rfl, rfl⟩ (kX4_pass_ (z := (ti, st, dy)) hst ((hs_ne (by omega)).trans (hs_eq _ _ _)) ((hs_ne (by omega)).trans ((hs_ne (by omega)).trans (mwd))) ((hs_ne (by omega)).trans ((hs_ne (by omega)).trans (mws))) ((hs_ne (by omega)).trans ((hs_ne (by omega)).trans (s0))) ((hs_ne (by omega)).trans ((hs_ne (by omega)).trans (svt))) ((hs_ne (by omega)).trans ((hs_ne (by omega)).trans (sti))) ((hs_ne (by omega)).trans ((hs_ne (by omega)).trans (sst))) (by omega) (by omega) (by omega) (hsi) hvp) (Nat.le_of_ble_eq_true rfl) (Nat.le_of_ble_eq_true rfl) (by omega) (by omega) (Nat.le_of_ble_eq_true rfl) GX.no (pq ?_)
  show GW X 43 [some (.ref 40), some (.int (nI d)), some (.ref n), none, none] [] (hs (hs (hs (hs (hs h 40 (oB 5 [.int (nI 0), .int (nI rc), .ref 41, .ref 42, .ref 43, .int (nI mc), .ref 44, .ref 45, .int tch, .int frs, .ref 46, .ref 47, .int len, .ref 48, .ref 49, .ref 50, .ref 51, .ref 56])) n (aI 20 st)) 51 (oB 4 [.int ((daysI wd vt ws rc d (ti, st, dy)).2.2), .ref (51 + 1), .ref (51 + 2), .ref (51 + 3), .ref (51 + 4), .ref 40])) (51 + 2) (aI 20 ((daysI wd vt ws rc d (ti, st, dy)).1))) (51 + 4) (aI 20 ((daysI wd vt ws rc d (ti, st, dy)).2.1))) (n + 1) 1 20
  refine g_cg (h' := (hs (hs (hs (hs (hs h 40 (oB 5 [.int (nI 0), .int (nI rc), .ref 41, .ref 42, .ref 43, .int (nI mc), .ref 44, .ref 45, .int tch, .int frs, .ref 46, .ref 47, .int len, .ref 48, .ref 49, .ref 50, .ref 51, .ref 56])) 51 (oB 4 [.int ((daysI wd vt ws rc d (ti, st, dy)).2.2), .ref (51 + 1), .ref (51 + 2), .ref (51 + 3), .ref (51 + 4), .ref 40])) (51 + 2) (aI 20 ((daysI wd vt ws rc d (ti, st, dy)).1))) (51 + 4) (aI 20 ((daysI wd vt ws rc d (ti, st, dy)).2.1))) n (aI 20 st))) rfl (by rw [hs_cm (k := 51) (j := n) _ _ _ (by omega), hs_cm (k := 51 + 2) (j := n) _ _ _ (by omega), hs_cm (k := 51 + 4) (j := n) _ _ _ (by omega)]) ?_
  refine g_iconst (v := (nI 0)) hX dX5_pass_43 (by decide) ?_
  refine g_istore_n (i := 3) hX dX5_pass_44 rfl (Nat.le_of_ble_eq_true rfl) rfl ?_
  refine g_iconst (v := (nI 0)) hX dX5_pass_45 (by decide) ?_
  refine g_istore hX dX5_pass_46 (Nat.le_of_ble_eq_true rfl) rfl ?_
  refine g_for (P := fun (i : Nat) (s : Int32) => GW X 48 [some (.ref 40), some (.int (nI d)), some (.ref n), some (.int s), some (.int (nI i))] [] (hs (hs (hs (hs (hs h 40 (oB 5 [.int (nI 0), .int (nI rc), .ref 41, .ref 42, .ref 43, .int (nI mc), .ref 44, .ref 45, .int tch, .int frs, .ref 46, .ref 47, .int len, .ref 48, .ref 49, .ref 50, .ref 51, .ref 56])) 51 (oB 4 [.int ((daysI wd vt ws rc d (ti, st, dy)).2.2), .ref (51 + 1), .ref (51 + 2), .ref (51 + 3), .ref (51 + 4), .ref 40])) (51 + 2) (aI 20 ((daysI wd vt ws rc d (ti, st, dy)).1))) (51 + 4) (aI 20 ((daysI wd vt ws rc d (ti, st, dy)).2.1))) n (aI 20 st)) (n + 1) 1 20) (step := fun i s => if (daysI wd vt ws rc d (ti, st, dy)).2.1 i = st i then s else s + 1) rc (nI 0) ?_ ?_
  · intro i1 s2 hi1 es2 ihi1
    have ihi1 : GW X 48 [some (.ref 40), some (.int (nI d)), some (.ref n), some (.int (if (daysI wd vt ws rc d (ti, st, dy)).2.1 i1 = st i1 then s2 else s2 + 1)), some (.int (nI (i1 + 1)))] [] (hs (hs (hs (hs (hs h 40 (oB 5 [.int (nI 0), .int (nI rc), .ref 41, .ref 42, .ref 43, .int (nI mc), .ref 44, .ref 45, .int tch, .int frs, .ref 46, .ref 47, .int len, .ref 48, .ref 49, .ref 50, .ref 51, .ref 56])) 51 (oB 4 [.int ((daysI wd vt ws rc d (ti, st, dy)).2.2), .ref (51 + 1), .ref (51 + 2), .ref (51 + 3), .ref (51 + 4), .ref 40])) (51 + 2) (aI 20 ((daysI wd vt ws rc d (ti, st, dy)).1))) (51 + 4) (aI 20 ((daysI wd vt ws rc d (ti, st, dy)).2.1))) n (aI 20 st)) (n + 1) 1 20 := ihi1
    refine g_iload hX dX5_pass_48 rfl ?_
    refine g_aload_n hX dX5_pass_50 rfl rfl ?_
    refine g_getf hX dX5_pass_51 fl_X5_56 ((hs_ne (by omega)).trans ((hs_ne (by omega)).trans ((hs_ne (by omega)).trans ((hs_ne (by omega)).trans (hs_eq _ _ _))))) rfl ?_
    refine g_icmp_geN (tgt := 88) hX dX5_pass_54 (by decide) (by omega) (fun c3 => absurd c3 (by omega)) (fun c3 => ?_)
    refine g_iload_n hX dX5_pass_57 rfl rfl ?_
    refine g_aload_n hX dX5_pass_58 rfl rfl ?_
    refine g_getf hX dX5_pass_59 fl_X5_45 ((hs_ne (by omega)).trans ((hs_ne (by omega)).trans ((hs_ne (by omega)).trans ((hs_ne (by omega)).trans (hs_eq _ _ _))))) rfl ?_
    refine g_getf hX dX5_pass_62 fl_X5_91 ((hs_ne (by omega)).trans ((hs_ne (by omega)).trans ((hs_ne (by omega)).trans (hs_eq _ _ _)))) rfl ?_
    refine g_iload hX dX5_pass_65 rfl ?_
    refine g_iaload hX dX5_pass_67 ((hs_ne (by omega)).trans (hs_eq _ _ _)) (i1) (by omega) rfl (by omega) ?_
    refine g_aload_n hX dX5_pass_68 rfl rfl ?_
    refine g_iload hX dX5_pass_69 rfl ?_
    refine g_iaload hX dX5_pass_71 (hs_eq _ _ _) (i1) (by omega) rfl (by omega) ?_
    refine g_icmp_eq (tgt := 79) hX dX5_pass_72 (by decide) (fun c4 => ?_) (fun c4 => ?_)
    · refine g_iconst (v := (nI 0)) hX dX5_pass_79 (by decide) ?_
      refine g_iadd hX dX5_pass_80 ?_
      refine g_istore_n (i := 3) hX dX5_pass_81 rfl (Nat.le_of_ble_eq_true rfl) rfl ?_
      refine g_iinc (v := (nI (i1 + 1))) hX dX5_pass_82 rfl rfl (gn_inc _ _) ?_
      refine g_goto (tgt := 48) hX dX5_pass_85 (by decide) ?_
      refine g_cv ihi1 (by simp [gn_a0, gn_one, c3, c4]) rfl
    · refine g_iconst (v := (nI 1)) hX dX5_pass_75 (by decide) ?_
      refine g_goto (tgt := 80) hX dX5_pass_76 (by decide) ?_
      refine g_iadd hX dX5_pass_80 ?_
      refine g_istore_n (i := 3) hX dX5_pass_81 rfl (Nat.le_of_ble_eq_true rfl) rfl ?_
      refine g_iinc (v := (nI (i1 + 1))) hX dX5_pass_82 rfl rfl (gn_inc _ _) ?_
      refine g_goto (tgt := 48) hX dX5_pass_85 (by decide) ?_
      refine g_cv ihi1 (by simp [gn_a0, gn_one, c3, c4]) rfl
  · refine g_iload hX dX5_pass_48 rfl ?_
    refine g_aload_n hX dX5_pass_50 rfl rfl ?_
    refine g_getf hX dX5_pass_51 fl_X5_56 ((hs_ne (by omega)).trans ((hs_ne (by omega)).trans ((hs_ne (by omega)).trans ((hs_ne (by omega)).trans (hs_eq _ _ _))))) rfl ?_
    refine g_icmp_geN (tgt := 88) hX dX5_pass_54 (by decide) (by omega) (fun c5 => ?_) (fun c5 => absurd c5 (by omega))
    refine g_iload_n hX dX5_pass_88 rfl rfl ?_
    refine g_ireturn hX hr dX5_pass_89 (by omega) (by omega)  ?_
    exact ⟨rfl, rfl, fun j hj => (hs_ne (by omega)).trans (hs_cgj (hs_cgj (hs_cgj ((hs_ne (by omega)).trans (rfl))))), ⟨_, _, _, _, _, _, _, _, _, _, _, ((hs_ne (by omega)).trans ((hs_ne (by omega)).trans ((hs_ne (by omega)).trans ((hs_ne (by omega)).trans (hs_eq _ _ _))))), ((hs_ne (by omega)).trans ((hs_ne (by omega)).trans ((hs_ne (by omega)).trans ((hs_ne (by omega)).trans ((hs_ne (by omega)).trans (mco)))))), ((hs_ne (by omega)).trans ((hs_ne (by omega)).trans ((hs_ne (by omega)).trans ((hs_ne (by omega)).trans ((hs_ne (by omega)).trans (mdg)))))), ((hs_ne (by omega)).trans ((hs_ne (by omega)).trans ((hs_ne (by omega)).trans ((hs_ne (by omega)).trans ((hs_ne (by omega)).trans (mrw)))))), ((hs_ne (by omega)).trans ((hs_ne (by omega)).trans ((hs_ne (by omega)).trans ((hs_ne (by omega)).trans ((hs_ne (by omega)).trans (mgo)))))), ((hs_ne (by omega)).trans ((hs_ne (by omega)).trans ((hs_ne (by omega)).trans ((hs_ne (by omega)).trans ((hs_ne (by omega)).trans (mwe)))))), ((hs_ne (by omega)).trans ((hs_ne (by omega)).trans ((hs_ne (by omega)).trans ((hs_ne (by omega)).trans ((hs_ne (by omega)).trans (a0)))))), ((hs_ne (by omega)).trans ((hs_ne (by omega)).trans ((hs_ne (by omega)).trans ((hs_ne (by omega)).trans ((hs_ne (by omega)).trans (avt)))))), ((hs_ne (by omega)).trans ((hs_ne (by omega)).trans ((hs_ne (by omega)).trans ((hs_ne (by omega)).trans ((hs_ne (by omega)).trans (ati)))))), ((hs_ne (by omega)).trans ((hs_ne (by omega)).trans ((hs_ne (by omega)).trans ((hs_ne (by omega)).trans ((hs_ne (by omega)).trans (afa)))))), ((hs_ne (by omega)).trans ((hs_ne (by omega)).trans ((hs_ne (by omega)).trans ((hs_ne (by omega)).trans ((hs_ne (by omega)).trans (ast))))))⟩⟩
set_option maxRecDepth 20000 in
theorem kX5_foresee_r {l : Launch} {K : gw_K} (hst : l.stackTraces = false) {n : Nat} {h : gw_H} {rc mc : Nat} {thr tch frs len dy ady : Int32} {mn : Nat → Nat} {wd sk ws cs co dg rw_ go we vt ti fa st avt ati afa ast : Nat → Int32} {a b d : Int32} (m0 : h 40 = (oB 5 [.int thr, .int (nI rc), .ref 41, .ref 42, .ref 43, .int (nI mc), .ref 44, .ref 45, .int tch, .int frs, .ref 46, .ref 47, .int len, .ref 48, .ref 49, .ref 50, .ref 51, .ref 56])) (mwd : h 41 = (aI 20 wd)) (msk : h 42 = (aI 20 sk)) (mws : h 43 = (aI 18 ws)) (mmn : h 44 = (aI 5 (fun k => nI (mn k)))) (mcs : h 45 = (aI 60 cs)) (mco : h 46 = (aI 201 co)) (mdg : h 47 = (aI 201 dg)) (mrw : h 48 = (aI 6 rw_)) (mgo : h 49 = (aI 6 go)) (mwe : h 50 = (aI 6 we)) (s0 : h 51 = (oB 4 [.int dy, .ref (51 + 1), .ref (51 + 2), .ref (51 + 3), .ref (51 + 4), .ref 40])) (svt : h (51 + 1) = (aI 20 vt)) (sti : h (51 + 2) = (aI 20 ti)) (sfa : h (51 + 3) = (aI 20 fa)) (sst : h (51 + 4) = (aI 20 st)) (a0 : h 56 = (oB 4 [.int ady, .ref (56 + 1), .ref (56 + 2), .ref (56 + 3), .ref (56 + 4), .ref 40])) (avt : h (56 + 1) = (aI 20 avt)) (ati : h (56 + 2) = (aI 20 ati)) (afa : h (56 + 3) = (aI 20 afa)) (ast : h (56 + 4) = (aI 20 ast)) (hn62 : 62 ≤ n) (hrc : rc ≤ 20) (hz : a < 0 ∨ nI rc ≤ a) : Ctr l K mX5_foresee [.ref 40, .int a, .int b, .int d] h n 0 0 (PM (some (.int (nI 0))) h n (nI 1) rc mc tch frs) (PX0) := by
  refine Ctr.of hst pn_X5_foresee (Nat.le_of_ble_eq_true rfl) (fun X hX hr hE => ?_)
  have hX : FX l K X cX5_foresee RX5 3 103 0 0 := hX
  show GW X 0 [some (.ref 40), some (.int a), some (.int b), some (.int d)] [] h n 0 0
  refine g_aload_n hX dX5_foresee_0 rfl rfl ?_
  refine g_iconst (v := (nI 0)) hX dX5_foresee_1 (by decide) ?_
  refine g_putI hX dX5_foresee_2 fl_X5_52 (m0) (Nat.le_of_ble_eq_true rfl) ?_
  show GW X 5 [some (.ref 40), some (.int a), some (.int b), some (.int d)] [] (hs h 40 (oB 5 [.int (nI 0), .int (nI rc), .ref 41, .ref 42, .ref 43, .int (nI mc), .ref 44, .ref 45, .int tch, .int frs, .ref 46, .ref 47, .int len, .ref 48, .ref 49, .ref 50, .ref 51, .ref 56])) n 0 0
  refine g_aload_n hX dX5_foresee_5 rfl rfl ?_
  refine g_iload_n hX dX5_foresee_6 rfl rfl ?_
  refine g_callV (As := [.int a]) hX dX5_foresee_7 cb_X5_isRinger ml_X5_94 im_X5_isRinger se_X5_isRinger rfl rfl (hs_eq _ _ _) ⟨_, rfl, rfl⟩ (kX5_isRinger_x hst (hs_eq _ _ _) (hz) (by omega)) (Nat.le_of_ble_eq_true rfl) (Nat.le_of_ble_eq_true rfl) (by omega) (by omega) (Nat.le_of_ble_eq_true rfl) GX.no (pq ?_)
  show GW X 10 [some (.ref 40), some (.int a), some (.int b), some (.int d)] [.int (nI 0)] (hs h 40 (oB 5 [.int (nI 0), .int (nI rc), .ref 41, .ref 42, .ref 43, .int (nI mc), .ref 44, .ref 45, .int tch, .int frs, .ref 46, .ref 47, .int len, .ref 48, .ref 49, .ref 50, .ref 51, .ref 56])) n 0 0
  refine g_if_ne (tgt := 19) hX dX5_foresee_10 (by decide) (fun c => absurd c (by decide)) (fun _ => ?_)
  refine g_aload_n hX dX5_foresee_13 rfl rfl ?_
  refine g_iconst (v := (nI 1)) hX dX5_foresee_14 (by decide) ?_
  refine g_callV (As := [.int (nI 1)]) hX dX5_foresee_15 cb_X5_no ml_X5_84 im_X5_no se_X5_no rfl rfl (hs_eq _ _ _) ⟨_, rfl, rfl⟩ (kX5_no hst (hs_eq _ _ _) ) (Nat.le_of_ble_eq_true rfl) (Nat.le_of_ble_eq_true rfl) (by omega) (by omega) (Nat.le_of_ble_eq_true rfl) GX.no (pq ?_)
  show GW X 18 [some (.ref 40), some (.int a), some (.int b), some (.int d)] [.int (nI 0)] (hs (hs h 40 (oB 5 [.int (nI 0), .int (nI rc), .ref 41, .ref 42, .ref 43, .int (nI mc), .ref 44, .ref 45, .int tch, .int frs, .ref 46, .ref 47, .int len, .ref 48, .ref 49, .ref 50, .ref 51, .ref 56])) 40 (oB 5 [.int (nI 1), .int (nI rc), .ref 41, .ref 42, .ref 43, .int (nI mc), .ref 44, .ref 45, .int tch, .int frs, .ref 46, .ref 47, .int len, .ref 48, .ref 49, .ref 50, .ref 51, .ref 56])) n 0 0
  refine g_cg rfl hs_hs ?_
  refine g_ireturn hX hr dX5_foresee_18 (Nat.le_refl _) (Nat.le_refl _)  ?_
  exact ⟨rfl, rfl, fun j hj => (hs_ne (by omega)).trans (rfl), ⟨_, _, _, _, _, _, _, _, _, _, _, (hs_eq _ _ _), ((hs_ne (by omega)).trans (mco)), ((hs_ne (by omega)).trans (mdg)), ((hs_ne (by omega)).trans (mrw)), ((hs_ne (by omega)).trans (mgo)), ((hs_ne (by omega)).trans (mwe)), ((hs_ne (by omega)).trans (a0)), ((hs_ne (by omega)).trans (avt)), ((hs_ne (by omega)).trans (ati)), ((hs_ne (by omega)).trans (afa)), ((hs_ne (by omega)).trans (ast))⟩⟩
set_option maxRecDepth 20000 in
theorem kX5_foresee_d {l : Launch} {K : gw_K} (hst : l.stackTraces = false) {n : Nat} {h : gw_H} {rc mc : Nat} {thr tch frs len dy ady : Int32} {mn : Nat → Nat} {wd sk ws cs co dg rw_ go we vt ti fa st avt ati afa ast : Nat → Int32} {a : Nat} {b d : Int32} (m0 : h 40 = (oB 5 [.int thr, .int (nI rc), .ref 41, .ref 42, .ref 43, .int (nI mc), .ref 44, .ref 45, .int tch, .int frs, .ref 46, .ref 47, .int len, .ref 48, .ref 49, .ref 50, .ref 51, .ref 56])) (mwd : h 41 = (aI 20 wd)) (msk : h 42 = (aI 20 sk)) (mws : h 43 = (aI 18 ws)) (mmn : h 44 = (aI 5 (fun k => nI (mn k)))) (mcs : h 45 = (aI 60 cs)) (mco : h 46 = (aI 201 co)) (mdg : h 47 = (aI 201 dg)) (mrw : h 48 = (aI 6 rw_)) (mgo : h 49 = (aI 6 go)) (mwe : h 50 = (aI 6 we)) (s0 : h 51 = (oB 4 [.int dy, .ref (51 + 1), .ref (51 + 2), .ref (51 + 3), .ref (51 + 4), .ref 40])) (svt : h (51 + 1) = (aI 20 vt)) (sti : h (51 + 2) = (aI 20 ti)) (sfa : h (51 + 3) = (aI 20 fa)) (sst : h (51 + 4) = (aI 20 st)) (a0 : h 56 = (oB 4 [.int ady, .ref (56 + 1), .ref (56 + 2), .ref (56 + 3), .ref (56 + 4), .ref 40])) (avt : h (56 + 1) = (aI 20 avt)) (ati : h (56 + 2) = (aI 20 ati)) (afa : h (56 + 3) = (aI 20 afa)) (ast : h (56 + 4) = (aI 20 ast)) (hn62 : 62 ≤ n) (hrc : rc ≤ 20) (ha : a < rc) (hz : b < nI 1 ∨ nI 60 < b) : Ctr l K mX5_foresee [.ref 40, .int (nI a), .int b, .int d] h n 0 0 (PM (some (.int (nI 0))) h n (nI 2) rc mc tch frs) (PX0) := by
  refine Ctr.of hst pn_X5_foresee (Nat.le_of_ble_eq_true rfl) (fun X hX hr hE => ?_)
  have hX : FX l K X cX5_foresee RX5 3 103 0 0 := hX
  show GW X 0 [some (.ref 40), some (.int (nI a)), some (.int b), some (.int d)] [] h n 0 0
  refine g_aload_n hX dX5_foresee_0 rfl rfl ?_
  refine g_iconst (v := (nI 0)) hX dX5_foresee_1 (by decide) ?_
  refine g_putI hX dX5_foresee_2 fl_X5_52 (m0) (Nat.le_of_ble_eq_true rfl) ?_
  show GW X 5 [some (.ref 40), some (.int (nI a)), some (.int b), some (.int d)] [] (hs h 40 (oB 5 [.int (nI 0), .int (nI rc), .ref 41, .ref 42, .ref 43, .int (nI mc), .ref 44, .ref 45, .int tch, .int frs, .ref 46, .ref 47, .int len, .ref 48, .ref 49, .ref 50, .ref 51, .ref 56])) n 0 0
  refine g_aload_n hX dX5_foresee_5 rfl rfl ?_
  refine g_iload_n hX dX5_foresee_6 rfl rfl ?_
  refine g_callV (As := [.int (nI a)]) hX dX5_foresee_7 cb_X5_isRinger ml_X5_94 im_X5_isRinger se_X5_isRinger rfl rfl (hs_eq _ _ _) ⟨_, rfl, rfl⟩ (kX5_isRinger hst (hs_eq _ _ _) (ha) (by omega)) (Nat.le_of_ble_eq_true rfl) (Nat.le_of_ble_eq_true rfl) (by omega) (by omega) (Nat.le_of_ble_eq_true rfl) GX.no (pq ?_)
  show GW X 10 [some (.ref 40), some (.int (nI a)), some (.int b), some (.int d)] [.int (nI 1)] (hs h 40 (oB 5 [.int (nI 0), .int (nI rc), .ref 41, .ref 42, .ref 43, .int (nI mc), .ref 44, .ref 45, .int tch, .int frs, .ref 46, .ref 47, .int len, .ref 48, .ref 49, .ref 50, .ref 51, .ref 56])) n 0 0
  refine g_if_ne (tgt := 19) hX dX5_foresee_10 (by decide) (fun _ => ?_) (fun c => absurd c (by decide))
  refine g_iload_n hX dX5_foresee_19 rfl rfl ?_
  refine g_iconst (v := (nI 1)) hX dX5_foresee_20 (by decide) ?_
  refine g_bipush (v := (nI 60)) hX dX5_foresee_21 (by decide) ?_
  refine g_callS (As := [.int b, .int (nI 1), .int (nI 60)]) hX dX5_foresee_23 cb_X5_isIn ml_X5_59 st_X5_isIn rfl rfl (kX5_isIn_x hst (hz)) (Nat.le_of_ble_eq_true rfl) (Nat.le_of_ble_eq_true rfl) (by omega) (by omega) (Nat.le_of_ble_eq_true rfl) GX.no (pq ?_)
  show GW X 26 [some (.ref 40), some (.int (nI a)), some (.int b), some (.int d)] [.int (nI 0)] (hs h 40 (oB 5 [.int (nI 0), .int (nI rc), .ref 41, .ref 42, .ref 43, .int (nI mc), .ref 44, .ref 45, .int tch, .int frs, .ref 46, .ref 47, .int len, .ref 48, .ref 49, .ref 50, .ref 51, .ref 56])) n 0 0
  refine g_if_eq (tgt := 38) hX dX5_foresee_26 (by decide) (fun _ => ?_) (fun c => absurd (by decide) c)
  refine g_aload_n hX dX5_foresee_38 rfl rfl ?_
  refine g_iconst (v := (nI 2)) hX dX5_foresee_39 (by decide) ?_
  refine g_callV (As := [.int (nI 2)]) hX dX5_foresee_40 cb_X5_no ml_X5_84 im_X5_no se_X5_no rfl rfl (hs_eq _ _ _) ⟨_, rfl, rfl⟩ (kX5_no hst (hs_eq _ _ _) ) (Nat.le_of_ble_eq_true rfl) (Nat.le_of_ble_eq_true rfl) (by omega) (by omega) (Nat.le_of_ble_eq_true rfl) GX.no (pq ?_)
  show GW X 43 [some (.ref 40), some (.int (nI a)), some (.int b), some (.int d)] [.int (nI 0)] (hs (hs h 40 (oB 5 [.int (nI 0), .int (nI rc), .ref 41, .ref 42, .ref 43, .int (nI mc), .ref 44, .ref 45, .int tch, .int frs, .ref 46, .ref 47, .int len, .ref 48, .ref 49, .ref 50, .ref 51, .ref 56])) 40 (oB 5 [.int (nI 2), .int (nI rc), .ref 41, .ref 42, .ref 43, .int (nI mc), .ref 44, .ref 45, .int tch, .int frs, .ref 46, .ref 47, .int len, .ref 48, .ref 49, .ref 50, .ref 51, .ref 56])) n 0 0
  refine g_cg rfl hs_hs ?_
  refine g_ireturn hX hr dX5_foresee_43 (Nat.le_refl _) (Nat.le_refl _)  ?_
  exact ⟨rfl, rfl, fun j hj => (hs_ne (by omega)).trans (rfl), ⟨_, _, _, _, _, _, _, _, _, _, _, (hs_eq _ _ _), ((hs_ne (by omega)).trans (mco)), ((hs_ne (by omega)).trans (mdg)), ((hs_ne (by omega)).trans (mrw)), ((hs_ne (by omega)).trans (mgo)), ((hs_ne (by omega)).trans (mwe)), ((hs_ne (by omega)).trans (a0)), ((hs_ne (by omega)).trans (avt)), ((hs_ne (by omega)).trans (ati)), ((hs_ne (by omega)).trans (afa)), ((hs_ne (by omega)).trans (ast))⟩⟩
set_option maxRecDepth 20000 in
theorem kX5_foresee_w {l : Launch} {K : gw_K} (hst : l.stackTraces = false) {n : Nat} {h : gw_H} {rc mc : Nat} {thr tch frs len dy ady : Int32} {mn : Nat → Nat} {wd sk ws cs co dg rw_ go we vt ti fa st avt ati afa ast : Nat → Int32} {a d : Nat} {b : Int32} (m0 : h 40 = (oB 5 [.int thr, .int (nI rc), .ref 41, .ref 42, .ref 43, .int (nI mc), .ref 44, .ref 45, .int tch, .int frs, .ref 46, .ref 47, .int len, .ref 48, .ref 49, .ref 50, .ref 51, .ref 56])) (mwd : h 41 = (aI 20 wd)) (msk : h 42 = (aI 20 sk)) (mws : h 43 = (aI 18 ws)) (mmn : h 44 = (aI 5 (fun k => nI (mn k)))) (mcs : h 45 = (aI 60 cs)) (mco : h 46 = (aI 201 co)) (mdg : h 47 = (aI 201 dg)) (mrw : h 48 = (aI 6 rw_)) (mgo : h 49 = (aI 6 go)) (mwe : h 50 = (aI 6 we)) (s0 : h 51 = (oB 4 [.int dy, .ref (51 + 1), .ref (51 + 2), .ref (51 + 3), .ref (51 + 4), .ref 40])) (svt : h (51 + 1) = (aI 20 vt)) (sti : h (51 + 2) = (aI 20 ti)) (sfa : h (51 + 3) = (aI 20 fa)) (sst : h (51 + 4) = (aI 20 st)) (a0 : h 56 = (oB 4 [.int ady, .ref (56 + 1), .ref (56 + 2), .ref (56 + 3), .ref (56 + 4), .ref 40])) (avt : h (56 + 1) = (aI 20 avt)) (ati : h (56 + 2) = (aI 20 ati)) (afa : h (56 + 3) = (aI 20 afa)) (ast : h (56 + 4) = (aI 20 ast)) (hn62 : 62 ≤ n) (hrc : rc ≤ 20) (ha : a < rc) (hd1 : 1 ≤ d) (hd60 : d ≤ 60) (hz : b < nI 3 ∨ nI 5 < b) : Ctr l K mX5_foresee [.ref 40, .int (nI a), .int (nI d), .int b] h n 0 0 (PM (some (.int (nI 0))) h n (nI 2) rc mc tch frs) (PX0) := by
  refine Ctr.of hst pn_X5_foresee (Nat.le_of_ble_eq_true rfl) (fun X hX hr hE => ?_)
  have hX : FX l K X cX5_foresee RX5 3 103 0 0 := hX
  show GW X 0 [some (.ref 40), some (.int (nI a)), some (.int (nI d)), some (.int b)] [] h n 0 0
  refine g_aload_n hX dX5_foresee_0 rfl rfl ?_
  refine g_iconst (v := (nI 0)) hX dX5_foresee_1 (by decide) ?_
  refine g_putI hX dX5_foresee_2 fl_X5_52 (m0) (Nat.le_of_ble_eq_true rfl) ?_
  show GW X 5 [some (.ref 40), some (.int (nI a)), some (.int (nI d)), some (.int b)] [] (hs h 40 (oB 5 [.int (nI 0), .int (nI rc), .ref 41, .ref 42, .ref 43, .int (nI mc), .ref 44, .ref 45, .int tch, .int frs, .ref 46, .ref 47, .int len, .ref 48, .ref 49, .ref 50, .ref 51, .ref 56])) n 0 0
  refine g_aload_n hX dX5_foresee_5 rfl rfl ?_
  refine g_iload_n hX dX5_foresee_6 rfl rfl ?_
  refine g_callV (As := [.int (nI a)]) hX dX5_foresee_7 cb_X5_isRinger ml_X5_94 im_X5_isRinger se_X5_isRinger rfl rfl (hs_eq _ _ _) ⟨_, rfl, rfl⟩ (kX5_isRinger hst (hs_eq _ _ _) (ha) (by omega)) (Nat.le_of_ble_eq_true rfl) (Nat.le_of_ble_eq_true rfl) (by omega) (by omega) (Nat.le_of_ble_eq_true rfl) GX.no (pq ?_)
  show GW X 10 [some (.ref 40), some (.int (nI a)), some (.int (nI d)), some (.int b)] [.int (nI 1)] (hs h 40 (oB 5 [.int (nI 0), .int (nI rc), .ref 41, .ref 42, .ref 43, .int (nI mc), .ref 44, .ref 45, .int tch, .int frs, .ref 46, .ref 47, .int len, .ref 48, .ref 49, .ref 50, .ref 51, .ref 56])) n 0 0
  refine g_if_ne (tgt := 19) hX dX5_foresee_10 (by decide) (fun _ => ?_) (fun c => absurd c (by decide))
  refine g_iload_n hX dX5_foresee_19 rfl rfl ?_
  refine g_iconst (v := (nI 1)) hX dX5_foresee_20 (by decide) ?_
  refine g_bipush (v := (nI 60)) hX dX5_foresee_21 (by decide) ?_
  refine g_callS (As := [.int (nI d), .int (nI 1), .int (nI 60)]) hX dX5_foresee_23 cb_X5_isIn ml_X5_59 st_X5_isIn rfl rfl (kX5_isIn hst (gn_okW hd1 hd60 (by omega))) (Nat.le_of_ble_eq_true rfl) (Nat.le_of_ble_eq_true rfl) (by omega) (by omega) (Nat.le_of_ble_eq_true rfl) GX.no (pq ?_)
  show GW X 26 [some (.ref 40), some (.int (nI a)), some (.int (nI d)), some (.int b)] [.int (nI 1)] (hs h 40 (oB 5 [.int (nI 0), .int (nI rc), .ref 41, .ref 42, .ref 43, .int (nI mc), .ref 44, .ref 45, .int tch, .int frs, .ref 46, .ref 47, .int len, .ref 48, .ref 49, .ref 50, .ref 51, .ref 56])) n 0 0
  refine g_if_eq (tgt := 38) hX dX5_foresee_26 (by decide) (fun c => absurd c (by decide)) (fun _ => ?_)
  refine g_iload_n hX dX5_foresee_29 rfl rfl ?_
  refine g_iconst (v := (nI 3)) hX dX5_foresee_30 (by decide) ?_
  refine g_iconst (v := (nI 5)) hX dX5_foresee_31 (by decide) ?_
  refine g_callS (As := [.int b, .int (nI 3), .int (nI 5)]) hX dX5_foresee_32 cb_X5_isIn ml_X5_59 st_X5_isIn rfl rfl (kX5_isIn_x hst (hz)) (Nat.le_of_ble_eq_true rfl) (Nat.le_of_ble_eq_true rfl) (by omega) (by omega) (Nat.le_of_ble_eq_true rfl) GX.no (pq ?_)
  show GW X 35 [some (.ref 40), some (.int (nI a)), some (.int (nI d)), some (.int b)] [.int (nI 0)] (hs h 40 (oB 5 [.int (nI 0), .int (nI rc), .ref 41, .ref 42, .ref 43, .int (nI mc), .ref 44, .ref 45, .int tch, .int frs, .ref 46, .ref 47, .int len, .ref 48, .ref 49, .ref 50, .ref 51, .ref 56])) n 0 0
  refine g_if_ne (tgt := 44) hX dX5_foresee_35 (by decide) (fun c => absurd c (by decide)) (fun _ => ?_)
  refine g_aload_n hX dX5_foresee_38 rfl rfl ?_
  refine g_iconst (v := (nI 2)) hX dX5_foresee_39 (by decide) ?_
  refine g_callV (As := [.int (nI 2)]) hX dX5_foresee_40 cb_X5_no ml_X5_84 im_X5_no se_X5_no rfl rfl (hs_eq _ _ _) ⟨_, rfl, rfl⟩ (kX5_no hst (hs_eq _ _ _) ) (Nat.le_of_ble_eq_true rfl) (Nat.le_of_ble_eq_true rfl) (by omega) (by omega) (Nat.le_of_ble_eq_true rfl) GX.no (pq ?_)
  show GW X 43 [some (.ref 40), some (.int (nI a)), some (.int (nI d)), some (.int b)] [.int (nI 0)] (hs (hs h 40 (oB 5 [.int (nI 0), .int (nI rc), .ref 41, .ref 42, .ref 43, .int (nI mc), .ref 44, .ref 45, .int tch, .int frs, .ref 46, .ref 47, .int len, .ref 48, .ref 49, .ref 50, .ref 51, .ref 56])) 40 (oB 5 [.int (nI 2), .int (nI rc), .ref 41, .ref 42, .ref 43, .int (nI mc), .ref 44, .ref 45, .int tch, .int frs, .ref 46, .ref 47, .int len, .ref 48, .ref 49, .ref 50, .ref 51, .ref 56])) n 0 0
  refine g_cg rfl hs_hs ?_
  refine g_ireturn hX hr dX5_foresee_43 (Nat.le_refl _) (Nat.le_refl _)  ?_
  exact ⟨rfl, rfl, fun j hj => (hs_ne (by omega)).trans (rfl), ⟨_, _, _, _, _, _, _, _, _, _, _, (hs_eq _ _ _), ((hs_ne (by omega)).trans (mco)), ((hs_ne (by omega)).trans (mdg)), ((hs_ne (by omega)).trans (mrw)), ((hs_ne (by omega)).trans (mgo)), ((hs_ne (by omega)).trans (mwe)), ((hs_ne (by omega)).trans (a0)), ((hs_ne (by omega)).trans (avt)), ((hs_ne (by omega)).trans (ati)), ((hs_ne (by omega)).trans (afa)), ((hs_ne (by omega)).trans (ast))⟩⟩
set_option maxRecDepth 20000 in
theorem kX5_foresee {l : Launch} {K : gw_K} (hst : l.stackTraces = false) {n : Nat} {h : gw_H} {rc mc : Nat} {thr tch frs len dy ady : Int32} {mn : Nat → Nat} {wd sk ws cs co dg rw_ go we vt ti fa st avt ati afa ast : Nat → Int32} {a d q : Nat} (m0 : h 40 = (oB 5 [.int thr, .int (nI rc), .ref 41, .ref 42, .ref 43, .int (nI mc), .ref 44, .ref 45, .int tch, .int frs, .ref 46, .ref 47, .int len, .ref 48, .ref 49, .ref 50, .ref 51, .ref 56])) (mwd : h 41 = (aI 20 wd)) (msk : h 42 = (aI 20 sk)) (mws : h 43 = (aI 18 ws)) (mmn : h 44 = (aI 5 (fun k => nI (mn k)))) (mcs : h 45 = (aI 60 cs)) (mco : h 46 = (aI 201 co)) (mdg : h 47 = (aI 201 dg)) (mrw : h 48 = (aI 6 rw_)) (mgo : h 49 = (aI 6 go)) (mwe : h 50 = (aI 6 we)) (s0 : h 51 = (oB 4 [.int dy, .ref (51 + 1), .ref (51 + 2), .ref (51 + 3), .ref (51 + 4), .ref 40])) (svt : h (51 + 1) = (aI 20 vt)) (sti : h (51 + 2) = (aI 20 ti)) (sfa : h (51 + 3) = (aI 20 fa)) (sst : h (51 + 4) = (aI 20 st)) (a0 : h 56 = (oB 4 [.int ady, .ref (56 + 1), .ref (56 + 2), .ref (56 + 3), .ref (56 + 4), .ref 40])) (avt : h (56 + 1) = (aI 20 avt)) (ati : h (56 + 2) = (aI 20 ati)) (afa : h (56 + 3) = (aI 20 afa)) (ast : h (56 + 4) = (aI 20 ast)) (hn62 : 62 ≤ n) (hrc : rc ≤ 20) (hsi : seatI st rc) (hvp : ∀ r, r < rc → 0 ≤ vt r) (ha : a < rc) (hd1 : 1 ≤ d) (hd60 : d ≤ 60) (hq3 : 3 ≤ q) (hq5 : q ≤ 5) : Ctr l K mX5_foresee [.ref 40, .int (nI a), .int (nI d), .int (nI q)] h n 1 8 (PM (some (.int (tellI wd sk vt (daysI wd vt ws rc d (ti, st, dy)).1 fa (daysI wd vt ws rc d (ti, st, dy)).2.1 rc a q))) h (n + 1) (nI 0) rc mc tch frs) (PX0) := by
  refine Ctr.of hst pn_X5_foresee (Nat.le_of_ble_eq_true rfl) (fun X hX hr hE => ?_)
  have hX : FX l K X cX5_foresee RX5 3 103 1 8 := hX
  show GW X 0 [some (.ref 40), some (.int (nI a)), some (.int (nI d)), some (.int (nI q))] [] h n 0 0
  have hso8 : ∀ r, r < rc → seatOK ((daysI wd vt ws rc d (ti, st, dy)).2.1 r) := fun r hr => (days_I (d := d) (wd := wd) (vt := vt) (ws := ws) (z := (ti, st, dy)) hrc hsi d (Nat.le_refl d) r hr).1
  refine g_aload_n hX dX5_foresee_0 rfl rfl ?_
  refine g_iconst (v := (nI 0)) hX dX5_foresee_1 (by decide) ?_
  refine g_putI hX dX5_foresee_2 fl_X5_52 (m0) (Nat.le_of_ble_eq_true rfl) ?_
  show GW X 5 [some (.ref 40), some (.int (nI a)), some (.int (nI d)), some (.int (nI q))] [] (hs h 40 (oB 5 [.int (nI 0), .int (nI rc), .ref 41, .ref 42, .ref 43, .int (nI mc), .ref 44, .ref 45, .int tch, .int frs, .ref 46, .ref 47, .int len, .ref 48, .ref 49, .ref 50, .ref 51, .ref 56])) n 0 0
  refine g_aload_n hX dX5_foresee_5 rfl rfl ?_
  refine g_iload_n hX dX5_foresee_6 rfl rfl ?_
  refine g_callV (As := [.int (nI a)]) hX dX5_foresee_7 cb_X5_isRinger ml_X5_94 im_X5_isRinger se_X5_isRinger rfl rfl (hs_eq _ _ _) ⟨_, rfl, rfl⟩ (kX5_isRinger hst (hs_eq _ _ _) (ha) (by omega)) (Nat.le_of_ble_eq_true rfl) (Nat.le_of_ble_eq_true rfl) (by omega) (by omega) (Nat.le_of_ble_eq_true rfl) GX.no (pq ?_)
  show GW X 10 [some (.ref 40), some (.int (nI a)), some (.int (nI d)), some (.int (nI q))] [.int (nI 1)] (hs h 40 (oB 5 [.int (nI 0), .int (nI rc), .ref 41, .ref 42, .ref 43, .int (nI mc), .ref 44, .ref 45, .int tch, .int frs, .ref 46, .ref 47, .int len, .ref 48, .ref 49, .ref 50, .ref 51, .ref 56])) n 0 0
  refine g_if_ne (tgt := 19) hX dX5_foresee_10 (by decide) (fun _ => ?_) (fun c => absurd c (by decide))
  refine g_iload_n hX dX5_foresee_19 rfl rfl ?_
  refine g_iconst (v := (nI 1)) hX dX5_foresee_20 (by decide) ?_
  refine g_bipush (v := (nI 60)) hX dX5_foresee_21 (by decide) ?_
  refine g_callS (As := [.int (nI d), .int (nI 1), .int (nI 60)]) hX dX5_foresee_23 cb_X5_isIn ml_X5_59 st_X5_isIn rfl rfl (kX5_isIn hst (gn_okW hd1 hd60 (by omega))) (Nat.le_of_ble_eq_true rfl) (Nat.le_of_ble_eq_true rfl) (by omega) (by omega) (Nat.le_of_ble_eq_true rfl) GX.no (pq ?_)
  show GW X 26 [some (.ref 40), some (.int (nI a)), some (.int (nI d)), some (.int (nI q))] [.int (nI 1)] (hs h 40 (oB 5 [.int (nI 0), .int (nI rc), .ref 41, .ref 42, .ref 43, .int (nI mc), .ref 44, .ref 45, .int tch, .int frs, .ref 46, .ref 47, .int len, .ref 48, .ref 49, .ref 50, .ref 51, .ref 56])) n 0 0
  refine g_if_eq (tgt := 38) hX dX5_foresee_26 (by decide) (fun c => absurd c (by decide)) (fun _ => ?_)
  refine g_iload_n hX dX5_foresee_29 rfl rfl ?_
  refine g_iconst (v := (nI 3)) hX dX5_foresee_30 (by decide) ?_
  refine g_iconst (v := (nI 5)) hX dX5_foresee_31 (by decide) ?_
  refine g_callS (As := [.int (nI q), .int (nI 3), .int (nI 5)]) hX dX5_foresee_32 cb_X5_isIn ml_X5_59 st_X5_isIn rfl rfl (kX5_isIn hst (gn_okW hq3 hq5 (by omega))) (Nat.le_of_ble_eq_true rfl) (Nat.le_of_ble_eq_true rfl) (by omega) (by omega) (Nat.le_of_ble_eq_true rfl) GX.no (pq ?_)
  show GW X 35 [some (.ref 40), some (.int (nI a)), some (.int (nI d)), some (.int (nI q))] [.int (nI 1)] (hs h 40 (oB 5 [.int (nI 0), .int (nI rc), .ref 41, .ref 42, .ref 43, .int (nI mc), .ref 44, .ref 45, .int tch, .int frs, .ref 46, .ref 47, .int len, .ref 48, .ref 49, .ref 50, .ref 51, .ref 56])) n 0 0
  refine g_if_ne (tgt := 44) hX dX5_foresee_35 (by decide) (fun _ => ?_) (fun c => absurd c (by decide))
  refine g_aload_n hX dX5_foresee_44 rfl rfl ?_
  refine g_getf hX dX5_foresee_45 fl_X5_49 (hs_eq _ _ _) rfl ?_
  refine g_aload_n hX dX5_foresee_48 rfl rfl ?_
  refine g_getf hX dX5_foresee_49 fl_X5_45 (hs_eq _ _ _) rfl ?_
  refine g_callV (As := [.ref 51]) hX dX5_foresee_52 cb_X4_become ml_X5_130 im_X4_become se_X4_become rfl rfl ((hs_ne (by omega)).trans (a0)) ⟨_, rfl, rfl⟩ (kX4_become hst (by omega) ((hs_ne (by omega)).trans (a0)) ((hs_ne (by omega)).trans (avt)) ((hs_ne (by omega)).trans (ati)) ((hs_ne (by omega)).trans (afa)) ((hs_ne (by omega)).trans (ast)) ((hs_ne (by omega)).trans (s0)) ((hs_ne (by omega)).trans (svt)) ((hs_ne (by omega)).trans (sti)) ((hs_ne (by omega)).trans (sfa)) ((hs_ne (by omega)).trans (sst))) (Nat.le_of_ble_eq_true rfl) (Nat.le_of_ble_eq_true rfl) (by omega) (by omega) (Nat.le_of_ble_eq_true rfl) GX.no (pq ?_)
  show GW X 55 [some (.ref 40), some (.int (nI a)), some (.int (nI d)), some (.int (nI q))] [.ref 56] (hs (hs (hs (hs (hs (hs h 40 (oB 5 [.int (nI 0), .int (nI rc), .ref 41, .ref 42, .ref 43, .int (nI mc), .ref 44, .ref 45, .int tch, .int frs, .ref 46, .ref 47, .int len, .ref 48, .ref 49, .ref 50, .ref 51, .ref 56])) 56 (oB 4 [.int dy, .ref (56 + 1), .ref (56 + 2), .ref (56 + 3), .ref (56 + 4), .ref 40])) (56 + 1) (aI 20 vt)) (56 + 2) (aI 20 ti)) (56 + 3) (aI 20 fa)) (56 + 4) (aI 20 st)) n 0 0
  refine g_iload_n hX dX5_foresee_55 rfl rfl ?_
  refine g_callV (As := [.int (nI d)]) hX dX5_foresee_56 cb_X4_pass_ ml_X5_182 im_X4_pass_ se_X4_pass_ rfl rfl ((hs_ne (by omega)).trans ((hs_ne (by omega)).trans ((hs_ne (by omega)).trans ((hs_ne (by omega)).trans (hs_eq _ _ _))))) ⟨_, rfl, rfl⟩ (kX4_pass_ (z := (ti, st, dy)) hst ((hs_ne (by omega)).trans ((hs_ne (by omega)).trans ((hs_ne (by omega)).trans ((hs_ne (by omega)).trans ((hs_ne (by omega)).trans (hs_eq _ _ _)))))) ((hs_ne (by omega)).trans ((hs_ne (by omega)).trans ((hs_ne (by omega)).trans ((hs_ne (by omega)).trans ((hs_ne (by omega)).trans ((hs_ne (by omega)).trans (mwd))))))) ((hs_ne (by omega)).trans ((hs_ne (by omega)).trans ((hs_ne (by omega)).trans ((hs_ne (by omega)).trans ((hs_ne (by omega)).trans ((hs_ne (by omega)).trans (mws))))))) ((hs_ne (by omega)).trans ((hs_ne (by omega)).trans ((hs_ne (by omega)).trans ((hs_ne (by omega)).trans (hs_eq _ _ _))))) ((hs_ne (by omega)).trans ((hs_ne (by omega)).trans ((hs_ne (by omega)).trans (hs_eq _ _ _)))) ((hs_ne (by omega)).trans ((hs_ne (by omega)).trans (hs_eq _ _ _))) (hs_eq _ _ _) (by omega) (by omega) (by omega) (hsi) hvp) (Nat.le_of_ble_eq_true rfl) (Nat.le_of_ble_eq_true rfl) (by omega) (by omega) (Nat.le_of_ble_eq_true rfl) GX.no (pq ?_)
  show GW X 59 [some (.ref 40), some (.int (nI a)), some (.int (nI d)), some (.int (nI q))] [] (hs (hs (hs (hs (hs (hs (hs (hs (hs h 40 (oB 5 [.int (nI 0), .int (nI rc), .ref 41, .ref 42, .ref 43, .int (nI mc), .ref 44, .ref 45, .int tch, .int frs, .ref 46, .ref 47, .int len, .ref 48, .ref 49, .ref 50, .ref 51, .ref 56])) 56 (oB 4 [.int dy, .ref (56 + 1), .ref (56 + 2), .ref (56 + 3), .ref (56 + 4), .ref 40])) (56 + 1) (aI 20 vt)) (56 + 2) (aI 20 ti)) (56 + 3) (aI 20 fa)) (56 + 4) (aI 20 st)) 56 (oB 4 [.int ((daysI wd vt ws rc d (ti, st, dy)).2.2), .ref (56 + 1), .ref (56 + 2), .ref (56 + 3), .ref (56 + 4), .ref 40])) (56 + 2) (aI 20 ((daysI wd vt ws rc d (ti, st, dy)).1))) (56 + 4) (aI 20 ((daysI wd vt ws rc d (ti, st, dy)).2.1))) n 0 0
  refine g_cg (h' := (hs (hs (hs (hs (hs (hs h 40 (oB 5 [.int (nI 0), .int (nI rc), .ref 41, .ref 42, .ref 43, .int (nI mc), .ref 44, .ref 45, .int tch, .int frs, .ref 46, .ref 47, .int len, .ref 48, .ref 49, .ref 50, .ref 51, .ref 56])) 56 (oB 4 [.int ((daysI wd vt ws rc d (ti, st, dy)).2.2), .ref (56 + 1), .ref (56 + 2), .ref (56 + 3), .ref (56 + 4), .ref 40])) (56 + 1) (aI 20 vt)) (56 + 2) (aI 20 ((daysI wd vt ws rc d (ti, st, dy)).1))) (56 + 3) (aI 20 fa)) (56 + 4) (aI 20 ((daysI wd vt ws rc d (ti, st, dy)).2.1)))) rfl (by rw [hs_cm (k := 56) (j := 56 + 4) _ _ _ (by omega), hs_cm (k := 56) (j := 56 + 3) _ _ _ (by omega), hs_cm (k := 56) (j := 56 + 2) _ _ _ (by omega), hs_cm (k := 56) (j := 56 + 1) _ _ _ (by omega), hs_hs (k := 56), hs_cm (k := 56 + 2) (j := 56 + 4) _ _ _ (by omega), hs_cm (k := 56 + 2) (j := 56 + 3) _ _ _ (by omega), hs_hs (k := 56 + 2), hs_hs (k := 56 + 4)]) ?_
  refine g_aload_n hX dX5_foresee_59 rfl rfl ?_
  refine g_aload_n hX dX5_foresee_60 rfl rfl ?_
  refine g_getf hX dX5_foresee_61 fl_X5_49 ((hs_ne (by omega)).trans ((hs_ne (by omega)).trans ((hs_ne (by omega)).trans ((hs_ne (by omega)).trans ((hs_ne (by omega)).trans (hs_eq _ _ _)))))) rfl ?_
  refine g_iload_n hX dX5_foresee_64 rfl rfl ?_
  refine g_iload_n hX dX5_foresee_65 rfl rfl ?_
  refine g_callV (As := [.ref 56, .int (nI a), .int (nI q)]) hX dX5_foresee_66 cb_X5_ringerTold ml_X5_126 im_X5_ringerTold se_X5_ringerTold rfl rfl ((hs_ne (by omega)).trans ((hs_ne (by omega)).trans ((hs_ne (by omega)).trans ((hs_ne (by omega)).trans ((hs_ne (by omega)).trans (hs_eq _ _ _)))))) ⟨_, rfl, rfl⟩ (kX5_ringerTold hst ((hs_ne (by omega)).trans ((hs_ne (by omega)).trans ((hs_ne (by omega)).trans ((hs_ne (by omega)).trans ((hs_ne (by omega)).trans (hs_eq _ _ _)))))) ((hs_ne (by omega)).trans ((hs_ne (by omega)).trans ((hs_ne (by omega)).trans ((hs_ne (by omega)).trans ((hs_ne (by omega)).trans ((hs_ne (by omega)).trans (mwd))))))) ((hs_ne (by omega)).trans ((hs_ne (by omega)).trans ((hs_ne (by omega)).trans ((hs_ne (by omega)).trans ((hs_ne (by omega)).trans ((hs_ne (by omega)).trans (msk))))))) ((hs_ne (by omega)).trans ((hs_ne (by omega)).trans ((hs_ne (by omega)).trans ((hs_ne (by omega)).trans (hs_eq _ _ _))))) ((hs_ne (by omega)).trans ((hs_ne (by omega)).trans ((hs_ne (by omega)).trans (hs_eq _ _ _)))) ((hs_ne (by omega)).trans ((hs_ne (by omega)).trans (hs_eq _ _ _))) ((hs_ne (by omega)).trans (hs_eq _ _ _)) (hs_eq _ _ _) (by omega) (by omega) (by omega) (by omega) (by omega) (hso8)) (Nat.le_of_ble_eq_true rfl) (Nat.le_of_ble_eq_true rfl) (by omega) (by omega) (Nat.le_of_ble_eq_true rfl) GX.no ?_
  rintro _ h1 _ - ⟨rfl, rfl, hk2⟩
  show GW X 69 [some (.ref 40), some (.int (nI a)), some (.int (nI d)), some (.int (nI q))] [.int (tellI wd sk vt ((daysI wd vt ws rc d (ti, st, dy)).1) fa ((daysI wd vt ws rc d (ti, st, dy)).2.1) rc a q)] h1 (n + 1) 1 8
  refine g_ireturn hX hr dX5_foresee_69 (by omega) (by omega)  ?_
  exact ⟨rfl, rfl, fun j hj => (hk2 j (by omega)).trans ((hs_ne (by omega)).trans ((hs_ne (by omega)).trans ((hs_ne (by omega)).trans ((hs_ne (by omega)).trans ((hs_ne (by omega)).trans ((hs_ne (by omega)).trans (rfl))))))), ⟨_, _, _, _, _, _, _, _, _, _, _, ((hk2 _ (by omega)).trans ((hs_ne (by omega)).trans ((hs_ne (by omega)).trans ((hs_ne (by omega)).trans ((hs_ne (by omega)).trans ((hs_ne (by omega)).trans (hs_eq _ _ _))))))), ((hk2 _ (by omega)).trans ((hs_ne (by omega)).trans ((hs_ne (by omega)).trans ((hs_ne (by omega)).trans ((hs_ne (by omega)).trans ((hs_ne (by omega)).trans ((hs_ne (by omega)).trans (mco)))))))), ((hk2 _ (by omega)).trans ((hs_ne (by omega)).trans ((hs_ne (by omega)).trans ((hs_ne (by omega)).trans ((hs_ne (by omega)).trans ((hs_ne (by omega)).trans ((hs_ne (by omega)).trans (mdg)))))))), ((hk2 _ (by omega)).trans ((hs_ne (by omega)).trans ((hs_ne (by omega)).trans ((hs_ne (by omega)).trans ((hs_ne (by omega)).trans ((hs_ne (by omega)).trans ((hs_ne (by omega)).trans (mrw)))))))), ((hk2 _ (by omega)).trans ((hs_ne (by omega)).trans ((hs_ne (by omega)).trans ((hs_ne (by omega)).trans ((hs_ne (by omega)).trans ((hs_ne (by omega)).trans ((hs_ne (by omega)).trans (mgo)))))))), ((hk2 _ (by omega)).trans ((hs_ne (by omega)).trans ((hs_ne (by omega)).trans ((hs_ne (by omega)).trans ((hs_ne (by omega)).trans ((hs_ne (by omega)).trans ((hs_ne (by omega)).trans (mwe)))))))), ((hk2 _ (by omega)).trans ((hs_ne (by omega)).trans ((hs_ne (by omega)).trans ((hs_ne (by omega)).trans ((hs_ne (by omega)).trans (hs_eq _ _ _)))))), ((hk2 _ (by omega)).trans ((hs_ne (by omega)).trans ((hs_ne (by omega)).trans ((hs_ne (by omega)).trans (hs_eq _ _ _))))), ((hk2 _ (by omega)).trans ((hs_ne (by omega)).trans ((hs_ne (by omega)).trans (hs_eq _ _ _)))), ((hk2 _ (by omega)).trans ((hs_ne (by omega)).trans (hs_eq _ _ _))), ((hk2 _ (by omega)).trans (hs_eq _ _ _))⟩⟩
