set_option maxRecDepth 20000 in
theorem kX5_add_m {l : Launch} {K : gw_K} (hst : l.stackTraces = false) {n : Nat} {h : gw_H} {rc mc : Nat} {thr tch frs len dy ady : Int32} {mn : Nat → Nat} {wd sk ws cs co dg rw_ go we vt ti fa st avt ati afa ast : Nat → Int32} {a b : Int32} (m0 : h 40 = (oB 5 [.int thr, .int (nI rc), .ref 41, .ref 42, .ref 43, .int (nI mc), .ref 44, .ref 45, .int tch, .int frs, .ref 46, .ref 47, .int len, .ref 48, .ref 49, .ref 50, .ref 51, .ref 56])) (mwd : h 41 = (aI 20 wd)) (msk : h 42 = (aI 20 sk)) (mws : h 43 = (aI 18 ws)) (mmn : h 44 = (aI 5 (fun k => nI (mn k)))) (mcs : h 45 = (aI 60 cs)) (mco : h 46 = (aI 201 co)) (mdg : h 47 = (aI 201 dg)) (mrw : h 48 = (aI 6 rw_)) (mgo : h 49 = (aI 6 go)) (mwe : h 50 = (aI 6 we)) (s0 : h 51 = (oB 4 [.int dy, .ref (51 + 1), .ref (51 + 2), .ref (51 + 3), .ref (51 + 4), .ref 40])) (svt : h (51 + 1) = (aI 20 vt)) (sti : h (51 + 2) = (aI 20 ti)) (sfa : h (51 + 3) = (aI 20 fa)) (sst : h (51 + 4) = (aI 20 st)) (a0 : h 56 = (oB 4 [.int ady, .ref (56 + 1), .ref (56 + 2), .ref (56 + 3), .ref (56 + 4), .ref 40])) (avt : h (56 + 1) = (aI 20 avt)) (ati : h (56 + 2) = (aI 20 ati)) (afa : h (56 + 3) = (aI 20 afa)) (ast : h (56 + 4) = (aI 20 ast)) (hn62 : 62 ≤ n) (hm5 : mc ≤ 5) (hz : a < 0 ∨ nI mc ≤ a) : Ctr l K mX5_add [.ref 40, .int a, .int b] h n 0 0 (PM (some (.int (nI 0))) h n (nI 1) rc mc tch frs) (PX0) := by
  refine Ctr.of hst pn_X5_add (Nat.le_of_ble_eq_true rfl) (fun X hX hr hE => ?_)
  have hX : FX l K X cX5_add RX5 2 43 0 0 := hX
  show GW X 0 [some (.ref 40), some (.int a), some (.int b)] [] h n 0 0
  refine g_aload_n hX dX5_add_0 rfl rfl ?_
  refine g_iconst (v := (nI 0)) hX dX5_add_1 (by decide) ?_
  refine g_putI hX dX5_add_2 fl_X5_52 (m0) (Nat.le_of_ble_eq_true rfl) ?_
  show GW X 5 [some (.ref 40), some (.int a), some (.int b)] [] (hs h 40 (oB 5 [.int (nI 0), .int (nI rc), .ref 41, .ref 42, .ref 43, .int (nI mc), .ref 44, .ref 45, .int tch, .int frs, .ref 46, .ref 47, .int len, .ref 48, .ref 49, .ref 50, .ref 51, .ref 56])) n 0 0
  refine g_aload_n hX dX5_add_5 rfl rfl ?_
  refine g_iload_n hX dX5_add_6 rfl rfl ?_
  refine g_callV (As := [.int a]) hX dX5_add_7 cb_X5_isMethod ml_X5_138 im_X5_isMethod se_X5_isMethod rfl rfl (hs_eq _ _ _) ⟨_, rfl, rfl⟩ (kX5_isMethod_x hst (hs_eq _ _ _) (hz) (by omega)) (Nat.le_of_ble_eq_true rfl) (Nat.le_of_ble_eq_true rfl) (by omega) (by omega) (Nat.le_of_ble_eq_true rfl) GX.no (pq ?_)
  show GW X 10 [some (.ref 40), some (.int a), some (.int b)] [.int (nI 0)] (hs h 40 (oB 5 [.int (nI 0), .int (nI rc), .ref 41, .ref 42, .ref 43, .int (nI mc), .ref 44, .ref 45, .int tch, .int frs, .ref 46, .ref 47, .int len, .ref 48, .ref 49, .ref 50, .ref 51, .ref 56])) n 0 0
  refine g_if_ne (tgt := 19) hX dX5_add_10 (by decide) (fun c => absurd c (by decide)) (fun _ => ?_)
  refine g_aload_n hX dX5_add_13 rfl rfl ?_
  refine g_iconst (v := (nI 1)) hX dX5_add_14 (by decide) ?_
  refine g_callV (As := [.int (nI 1)]) hX dX5_add_15 cb_X5_no ml_X5_84 im_X5_no se_X5_no rfl rfl (hs_eq _ _ _) ⟨_, rfl, rfl⟩ (kX5_no hst (hs_eq _ _ _) ) (Nat.le_of_ble_eq_true rfl) (Nat.le_of_ble_eq_true rfl) (by omega) (by omega) (Nat.le_of_ble_eq_true rfl) GX.no (pq ?_)
  show GW X 18 [some (.ref 40), some (.int a), some (.int b)] [.int (nI 0)] (hs (hs h 40 (oB 5 [.int (nI 0), .int (nI rc), .ref 41, .ref 42, .ref 43, .int (nI mc), .ref 44, .ref 45, .int tch, .int frs, .ref 46, .ref 47, .int len, .ref 48, .ref 49, .ref 50, .ref 51, .ref 56])) 40 (oB 5 [.int (nI 1), .int (nI rc), .ref 41, .ref 42, .ref 43, .int (nI mc), .ref 44, .ref 45, .int tch, .int frs, .ref 46, .ref 47, .int len, .ref 48, .ref 49, .ref 50, .ref 51, .ref 56])) n 0 0
  refine g_cg rfl hs_hs ?_
  refine g_ireturn hX hr dX5_add_18 (Nat.le_refl _) (Nat.le_refl _)  ?_
  exact ⟨rfl, rfl, fun j hj => (hs_ne (by omega)).trans (rfl), ⟨_, _, _, _, _, _, _, _, _, _, _, (hs_eq _ _ _), ((hs_ne (by omega)).trans (mco)), ((hs_ne (by omega)).trans (mdg)), ((hs_ne (by omega)).trans (mrw)), ((hs_ne (by omega)).trans (mgo)), ((hs_ne (by omega)).trans (mwe)), ((hs_ne (by omega)).trans (a0)), ((hs_ne (by omega)).trans (avt)), ((hs_ne (by omega)).trans (ati)), ((hs_ne (by omega)).trans (afa)), ((hs_ne (by omega)).trans (ast))⟩⟩
set_option maxRecDepth 20000 in
theorem kX5_add_c {l : Launch} {K : gw_K} (hst : l.stackTraces = false) {n : Nat} {h : gw_H} {rc mc : Nat} {thr tch frs len dy ady : Int32} {mn : Nat → Nat} {wd sk ws cs co dg rw_ go we vt ti fa st avt ati afa ast : Nat → Int32} {m : Nat} {b : Int32} (m0 : h 40 = (oB 5 [.int thr, .int (nI rc), .ref 41, .ref 42, .ref 43, .int (nI mc), .ref 44, .ref 45, .int tch, .int frs, .ref 46, .ref 47, .int len, .ref 48, .ref 49, .ref 50, .ref 51, .ref 56])) (mwd : h 41 = (aI 20 wd)) (msk : h 42 = (aI 20 sk)) (mws : h 43 = (aI 18 ws)) (mmn : h 44 = (aI 5 (fun k => nI (mn k)))) (mcs : h 45 = (aI 60 cs)) (mco : h 46 = (aI 201 co)) (mdg : h 47 = (aI 201 dg)) (mrw : h 48 = (aI 6 rw_)) (mgo : h 49 = (aI 6 go)) (mwe : h 50 = (aI 6 we)) (s0 : h 51 = (oB 4 [.int dy, .ref (51 + 1), .ref (51 + 2), .ref (51 + 3), .ref (51 + 4), .ref 40])) (svt : h (51 + 1) = (aI 20 vt)) (sti : h (51 + 2) = (aI 20 ti)) (sfa : h (51 + 3) = (aI 20 fa)) (sst : h (51 + 4) = (aI 20 st)) (a0 : h 56 = (oB 4 [.int ady, .ref (56 + 1), .ref (56 + 2), .ref (56 + 3), .ref (56 + 4), .ref 40])) (avt : h (56 + 1) = (aI 20 avt)) (ati : h (56 + 2) = (aI 20 ati)) (afa : h (56 + 3) = (aI 20 afa)) (ast : h (56 + 4) = (aI 20 ast)) (hn62 : 62 ≤ n) (hm5 : mc ≤ 5) (hk : m < mc) (hz : b < nI 0 ∨ nI 31 < b) : Ctr l K mX5_add [.ref 40, .int (nI m), .int b] h n 0 0 (PM (some (.int (nI 0))) h n (nI 2) rc mc tch frs) (PX0) := by
  refine Ctr.of hst pn_X5_add (Nat.le_of_ble_eq_true rfl) (fun X hX hr hE => ?_)
  have hX : FX l K X cX5_add RX5 2 43 0 0 := hX
  show GW X 0 [some (.ref 40), some (.int (nI m)), some (.int b)] [] h n 0 0
  refine g_aload_n hX dX5_add_0 rfl rfl ?_
  refine g_iconst (v := (nI 0)) hX dX5_add_1 (by decide) ?_
  refine g_putI hX dX5_add_2 fl_X5_52 (m0) (Nat.le_of_ble_eq_true rfl) ?_
  show GW X 5 [some (.ref 40), some (.int (nI m)), some (.int b)] [] (hs h 40 (oB 5 [.int (nI 0), .int (nI rc), .ref 41, .ref 42, .ref 43, .int (nI mc), .ref 44, .ref 45, .int tch, .int frs, .ref 46, .ref 47, .int len, .ref 48, .ref 49, .ref 50, .ref 51, .ref 56])) n 0 0
  refine g_aload_n hX dX5_add_5 rfl rfl ?_
  refine g_iload_n hX dX5_add_6 rfl rfl ?_
  refine g_callV (As := [.int (nI m)]) hX dX5_add_7 cb_X5_isMethod ml_X5_138 im_X5_isMethod se_X5_isMethod rfl rfl (hs_eq _ _ _) ⟨_, rfl, rfl⟩ (kX5_isMethod hst (hs_eq _ _ _) (hk) (by omega)) (Nat.le_of_ble_eq_true rfl) (Nat.le_of_ble_eq_true rfl) (by omega) (by omega) (Nat.le_of_ble_eq_true rfl) GX.no (pq ?_)
  show GW X 10 [some (.ref 40), some (.int (nI m)), some (.int b)] [.int (nI 1)] (hs h 40 (oB 5 [.int (nI 0), .int (nI rc), .ref 41, .ref 42, .ref 43, .int (nI mc), .ref 44, .ref 45, .int tch, .int frs, .ref 46, .ref 47, .int len, .ref 48, .ref 49, .ref 50, .ref 51, .ref 56])) n 0 0
  refine g_if_ne (tgt := 19) hX dX5_add_10 (by decide) (fun _ => ?_) (fun c => absurd c (by decide))
  refine g_iload_n hX dX5_add_19 rfl rfl ?_
  refine g_iconst (v := (nI 0)) hX dX5_add_20 (by decide) ?_
  refine g_bipush (v := (nI 31)) hX dX5_add_21 (by decide) ?_
  refine g_callS (As := [.int b, .int (nI 0), .int (nI 31)]) hX dX5_add_23 cb_X5_isIn ml_X5_59 st_X5_isIn rfl rfl (kX5_isIn_x hst (hz)) (Nat.le_of_ble_eq_true rfl) (Nat.le_of_ble_eq_true rfl) (by omega) (by omega) (Nat.le_of_ble_eq_true rfl) GX.no (pq ?_)
  show GW X 26 [some (.ref 40), some (.int (nI m)), some (.int b)] [.int (nI 0)] (hs h 40 (oB 5 [.int (nI 0), .int (nI rc), .ref 41, .ref 42, .ref 43, .int (nI mc), .ref 44, .ref 45, .int tch, .int frs, .ref 46, .ref 47, .int len, .ref 48, .ref 49, .ref 50, .ref 51, .ref 56])) n 0 0
  refine g_if_eq (tgt := 37) hX dX5_add_26 (by decide) (fun _ => ?_) (fun c => absurd (by decide) c)
  refine g_aload_n hX dX5_add_37 rfl rfl ?_
  refine g_iconst (v := (nI 2)) hX dX5_add_38 (by decide) ?_
  refine g_callV (As := [.int (nI 2)]) hX dX5_add_39 cb_X5_no ml_X5_84 im_X5_no se_X5_no rfl rfl (hs_eq _ _ _) ⟨_, rfl, rfl⟩ (kX5_no hst (hs_eq _ _ _) ) (Nat.le_of_ble_eq_true rfl) (Nat.le_of_ble_eq_true rfl) (by omega) (by omega) (Nat.le_of_ble_eq_true rfl) GX.no (pq ?_)
  show GW X 42 [some (.ref 40), some (.int (nI m)), some (.int b)] [.int (nI 0)] (hs (hs h 40 (oB 5 [.int (nI 0), .int (nI rc), .ref 41, .ref 42, .ref 43, .int (nI mc), .ref 44, .ref 45, .int tch, .int frs, .ref 46, .ref 47, .int len, .ref 48, .ref 49, .ref 50, .ref 51, .ref 56])) 40 (oB 5 [.int (nI 2), .int (nI rc), .ref 41, .ref 42, .ref 43, .int (nI mc), .ref 44, .ref 45, .int tch, .int frs, .ref 46, .ref 47, .int len, .ref 48, .ref 49, .ref 50, .ref 51, .ref 56])) n 0 0
  refine g_cg rfl hs_hs ?_
  refine g_ireturn hX hr dX5_add_42 (Nat.le_refl _) (Nat.le_refl _)  ?_
  exact ⟨rfl, rfl, fun j hj => (hs_ne (by omega)).trans (rfl), ⟨_, _, _, _, _, _, _, _, _, _, _, (hs_eq _ _ _), ((hs_ne (by omega)).trans (mco)), ((hs_ne (by omega)).trans (mdg)), ((hs_ne (by omega)).trans (mrw)), ((hs_ne (by omega)).trans (mgo)), ((hs_ne (by omega)).trans (mwe)), ((hs_ne (by omega)).trans (a0)), ((hs_ne (by omega)).trans (avt)), ((hs_ne (by omega)).trans (ati)), ((hs_ne (by omega)).trans (afa)), ((hs_ne (by omega)).trans (ast))⟩⟩
set_option maxRecDepth 20000 in
theorem kX5_add_p {l : Launch} {K : gw_K} (hst : l.stackTraces = false) {n : Nat} {h : gw_H} {rc mc : Nat} {thr tch frs len dy ady : Int32} {mn : Nat → Nat} {wd sk ws cs co dg rw_ go we vt ti fa st avt ati afa ast : Nat → Int32} {m q : Nat} (m0 : h 40 = (oB 5 [.int thr, .int (nI rc), .ref 41, .ref 42, .ref 43, .int (nI mc), .ref 44, .ref 45, .int tch, .int frs, .ref 46, .ref 47, .int len, .ref 48, .ref 49, .ref 50, .ref 51, .ref 56])) (mwd : h 41 = (aI 20 wd)) (msk : h 42 = (aI 20 sk)) (mws : h 43 = (aI 18 ws)) (mmn : h 44 = (aI 5 (fun k => nI (mn k)))) (mcs : h 45 = (aI 60 cs)) (mco : h 46 = (aI 201 co)) (mdg : h 47 = (aI 201 dg)) (mrw : h 48 = (aI 6 rw_)) (mgo : h 49 = (aI 6 go)) (mwe : h 50 = (aI 6 we)) (s0 : h 51 = (oB 4 [.int dy, .ref (51 + 1), .ref (51 + 2), .ref (51 + 3), .ref (51 + 4), .ref 40])) (svt : h (51 + 1) = (aI 20 vt)) (sti : h (51 + 2) = (aI 20 ti)) (sfa : h (51 + 3) = (aI 20 fa)) (sst : h (51 + 4) = (aI 20 st)) (a0 : h 56 = (oB 4 [.int ady, .ref (56 + 1), .ref (56 + 2), .ref (56 + 3), .ref (56 + 4), .ref 40])) (avt : h (56 + 1) = (aI 20 avt)) (ati : h (56 + 2) = (aI 20 ati)) (afa : h (56 + 3) = (aI 20 afa)) (ast : h (56 + 4) = (aI 20 ast)) (hn62 : 62 ≤ n) (hm5 : mc ≤ 5) (hk : m < mc) (hq : q < 32) (hz : ¬ q &&& (q >>> 1) = 0) : Ctr l K mX5_add [.ref 40, .int (nI m), .int (nI q)] h n 0 0 (PM (some (.int (nI 0))) h n (nI 2) rc mc tch frs) (PX0) := by
  refine Ctr.of hst pn_X5_add (Nat.le_of_ble_eq_true rfl) (fun X hX hr hE => ?_)
  have hX : FX l K X cX5_add RX5 2 43 0 0 := hX
  show GW X 0 [some (.ref 40), some (.int (nI m)), some (.int (nI q))] [] h n 0 0
  refine g_aload_n hX dX5_add_0 rfl rfl ?_
  refine g_iconst (v := (nI 0)) hX dX5_add_1 (by decide) ?_
  refine g_putI hX dX5_add_2 fl_X5_52 (m0) (Nat.le_of_ble_eq_true rfl) ?_
  show GW X 5 [some (.ref 40), some (.int (nI m)), some (.int (nI q))] [] (hs h 40 (oB 5 [.int (nI 0), .int (nI rc), .ref 41, .ref 42, .ref 43, .int (nI mc), .ref 44, .ref 45, .int tch, .int frs, .ref 46, .ref 47, .int len, .ref 48, .ref 49, .ref 50, .ref 51, .ref 56])) n 0 0
  refine g_aload_n hX dX5_add_5 rfl rfl ?_
  refine g_iload_n hX dX5_add_6 rfl rfl ?_
  refine g_callV (As := [.int (nI m)]) hX dX5_add_7 cb_X5_isMethod ml_X5_138 im_X5_isMethod se_X5_isMethod rfl rfl (hs_eq _ _ _) ⟨_, rfl, rfl⟩ (kX5_isMethod hst (hs_eq _ _ _) (hk) (by omega)) (Nat.le_of_ble_eq_true rfl) (Nat.le_of_ble_eq_true rfl) (by omega) (by omega) (Nat.le_of_ble_eq_true rfl) GX.no (pq ?_)
  show GW X 10 [some (.ref 40), some (.int (nI m)), some (.int (nI q))] [.int (nI 1)] (hs h 40 (oB 5 [.int (nI 0), .int (nI rc), .ref 41, .ref 42, .ref 43, .int (nI mc), .ref 44, .ref 45, .int tch, .int frs, .ref 46, .ref 47, .int len, .ref 48, .ref 49, .ref 50, .ref 51, .ref 56])) n 0 0
  refine g_if_ne (tgt := 19) hX dX5_add_10 (by decide) (fun _ => ?_) (fun c => absurd c (by decide))
  refine g_iload_n hX dX5_add_19 rfl rfl ?_
  refine g_iconst (v := (nI 0)) hX dX5_add_20 (by decide) ?_
  refine g_bipush (v := (nI 31)) hX dX5_add_21 (by decide) ?_
  refine g_callS (As := [.int (nI q), .int (nI 0), .int (nI 31)]) hX dX5_add_23 cb_X5_isIn ml_X5_59 st_X5_isIn rfl rfl (kX5_isIn hst (gn_okW (by omega) (by omega) (by omega))) (Nat.le_of_ble_eq_true rfl) (Nat.le_of_ble_eq_true rfl) (by omega) (by omega) (Nat.le_of_ble_eq_true rfl) GX.no (pq ?_)
  show GW X 26 [some (.ref 40), some (.int (nI m)), some (.int (nI q))] [.int (nI 1)] (hs h 40 (oB 5 [.int (nI 0), .int (nI rc), .ref 41, .ref 42, .ref 43, .int (nI mc), .ref 44, .ref 45, .int tch, .int frs, .ref 46, .ref 47, .int len, .ref 48, .ref 49, .ref 50, .ref 51, .ref 56])) n 0 0
  refine g_if_eq (tgt := 37) hX dX5_add_26 (by decide) (fun c => absurd c (by decide)) (fun _ => ?_)
  refine g_iload_n hX dX5_add_29 rfl rfl ?_
  refine g_iload_n hX dX5_add_30 rfl rfl ?_
  refine g_iconst (v := (nI 1)) hX dX5_add_31 (by decide) ?_
  refine g_ishl hX dX5_add_32 ?_
  refine g_iand hX dX5_add_33 ?_
  refine g_if_eq (tgt := 43) hX dX5_add_34 (by decide) (fun c1 => absurd c1 (fun z => hz ((chl_dec q hq).mp z))) (fun c1 => ?_)
  refine g_aload_n hX dX5_add_37 rfl rfl ?_
  refine g_iconst (v := (nI 2)) hX dX5_add_38 (by decide) ?_
  refine g_callV (As := [.int (nI 2)]) hX dX5_add_39 cb_X5_no ml_X5_84 im_X5_no se_X5_no rfl rfl (hs_eq _ _ _) ⟨_, rfl, rfl⟩ (kX5_no hst (hs_eq _ _ _) ) (Nat.le_of_ble_eq_true rfl) (Nat.le_of_ble_eq_true rfl) (by omega) (by omega) (Nat.le_of_ble_eq_true rfl) GX.no (pq ?_)
  show GW X 42 [some (.ref 40), some (.int (nI m)), some (.int (nI q))] [.int (nI 0)] (hs (hs h 40 (oB 5 [.int (nI 0), .int (nI rc), .ref 41, .ref 42, .ref 43, .int (nI mc), .ref 44, .ref 45, .int tch, .int frs, .ref 46, .ref 47, .int len, .ref 48, .ref 49, .ref 50, .ref 51, .ref 56])) 40 (oB 5 [.int (nI 2), .int (nI rc), .ref 41, .ref 42, .ref 43, .int (nI mc), .ref 44, .ref 45, .int tch, .int frs, .ref 46, .ref 47, .int len, .ref 48, .ref 49, .ref 50, .ref 51, .ref 56])) n 0 0
  refine g_cg rfl hs_hs ?_
  refine g_ireturn hX hr dX5_add_42 (Nat.le_refl _) (Nat.le_refl _)  ?_
  exact ⟨rfl, rfl, fun j hj => (hs_ne (by omega)).trans (rfl), ⟨_, _, _, _, _, _, _, _, _, _, _, (hs_eq _ _ _), ((hs_ne (by omega)).trans (mco)), ((hs_ne (by omega)).trans (mdg)), ((hs_ne (by omega)).trans (mrw)), ((hs_ne (by omega)).trans (mgo)), ((hs_ne (by omega)).trans (mwe)), ((hs_ne (by omega)).trans (a0)), ((hs_ne (by omega)).trans (avt)), ((hs_ne (by omega)).trans (ati)), ((hs_ne (by omega)).trans (afa)), ((hs_ne (by omega)).trans (ast))⟩⟩
set_option maxRecDepth 20000 in
theorem kX5_add_f {l : Launch} {K : gw_K} (hst : l.stackTraces = false) {n : Nat} {h : gw_H} {rc mc : Nat} {thr tch frs len dy ady : Int32} {mn : Nat → Nat} {wd sk ws cs co dg rw_ go we vt ti fa st avt ati afa ast : Nat → Int32} {m q : Nat} (m0 : h 40 = (oB 5 [.int thr, .int (nI rc), .ref 41, .ref 42, .ref 43, .int (nI mc), .ref 44, .ref 45, .int tch, .int frs, .ref 46, .ref 47, .int len, .ref 48, .ref 49, .ref 50, .ref 51, .ref 56])) (mwd : h 41 = (aI 20 wd)) (msk : h 42 = (aI 20 sk)) (mws : h 43 = (aI 18 ws)) (mmn : h 44 = (aI 5 (fun k => nI (mn k)))) (mcs : h 45 = (aI 60 cs)) (mco : h 46 = (aI 201 co)) (mdg : h 47 = (aI 201 dg)) (mrw : h 48 = (aI 6 rw_)) (mgo : h 49 = (aI 6 go)) (mwe : h 50 = (aI 6 we)) (s0 : h 51 = (oB 4 [.int dy, .ref (51 + 1), .ref (51 + 2), .ref (51 + 3), .ref (51 + 4), .ref 40])) (svt : h (51 + 1) = (aI 20 vt)) (sti : h (51 + 2) = (aI 20 ti)) (sfa : h (51 + 3) = (aI 20 fa)) (sst : h (51 + 4) = (aI 20 st)) (a0 : h 56 = (oB 4 [.int ady, .ref (56 + 1), .ref (56 + 2), .ref (56 + 3), .ref (56 + 4), .ref 40])) (avt : h (56 + 1) = (aI 20 avt)) (ati : h (56 + 2) = (aI 20 ati)) (afa : h (56 + 3) = (aI 20 afa)) (ast : h (56 + 4) = (aI 20 ast)) (hn62 : 62 ≤ n) (hm5 : mc ≤ 5) (hk : m < mc) (hq : q < 32) (hz : q &&& (q >>> 1) = 0) (hf : mn m = 12) : Ctr l K mX5_add [.ref 40, .int (nI m), .int (nI q)] h n 0 0 (PM (some (.int (nI 0))) h n (nI 3) rc mc tch frs) (PX0) := by
  refine Ctr.of hst pn_X5_add (Nat.le_of_ble_eq_true rfl) (fun X hX hr hE => ?_)
  have hX : FX l K X cX5_add RX5 2 43 0 0 := hX
  show GW X 0 [some (.ref 40), some (.int (nI m)), some (.int (nI q))] [] h n 0 0
  refine g_aload_n hX dX5_add_0 rfl rfl ?_
  refine g_iconst (v := (nI 0)) hX dX5_add_1 (by decide) ?_
  refine g_putI hX dX5_add_2 fl_X5_52 (m0) (Nat.le_of_ble_eq_true rfl) ?_
  show GW X 5 [some (.ref 40), some (.int (nI m)), some (.int (nI q))] [] (hs h 40 (oB 5 [.int (nI 0), .int (nI rc), .ref 41, .ref 42, .ref 43, .int (nI mc), .ref 44, .ref 45, .int tch, .int frs, .ref 46, .ref 47, .int len, .ref 48, .ref 49, .ref 50, .ref 51, .ref 56])) n 0 0
  refine g_aload_n hX dX5_add_5 rfl rfl ?_
  refine g_iload_n hX dX5_add_6 rfl rfl ?_
  refine g_callV (As := [.int (nI m)]) hX dX5_add_7 cb_X5_isMethod ml_X5_138 im_X5_isMethod se_X5_isMethod rfl rfl (hs_eq _ _ _) ⟨_, rfl, rfl⟩ (kX5_isMethod hst (hs_eq _ _ _) (hk) (by omega)) (Nat.le_of_ble_eq_true rfl) (Nat.le_of_ble_eq_true rfl) (by omega) (by omega) (Nat.le_of_ble_eq_true rfl) GX.no (pq ?_)
  show GW X 10 [some (.ref 40), some (.int (nI m)), some (.int (nI q))] [.int (nI 1)] (hs h 40 (oB 5 [.int (nI 0), .int (nI rc), .ref 41, .ref 42, .ref 43, .int (nI mc), .ref 44, .ref 45, .int tch, .int frs, .ref 46, .ref 47, .int len, .ref 48, .ref 49, .ref 50, .ref 51, .ref 56])) n 0 0
  refine g_if_ne (tgt := 19) hX dX5_add_10 (by decide) (fun _ => ?_) (fun c => absurd c (by decide))
  refine g_iload_n hX dX5_add_19 rfl rfl ?_
  refine g_iconst (v := (nI 0)) hX dX5_add_20 (by decide) ?_
  refine g_bipush (v := (nI 31)) hX dX5_add_21 (by decide) ?_
  refine g_callS (As := [.int (nI q), .int (nI 0), .int (nI 31)]) hX dX5_add_23 cb_X5_isIn ml_X5_59 st_X5_isIn rfl rfl (kX5_isIn hst (gn_okW (by omega) (by omega) (by omega))) (Nat.le_of_ble_eq_true rfl) (Nat.le_of_ble_eq_true rfl) (by omega) (by omega) (Nat.le_of_ble_eq_true rfl) GX.no (pq ?_)
  show GW X 26 [some (.ref 40), some (.int (nI m)), some (.int (nI q))] [.int (nI 1)] (hs h 40 (oB 5 [.int (nI 0), .int (nI rc), .ref 41, .ref 42, .ref 43, .int (nI mc), .ref 44, .ref 45, .int tch, .int frs, .ref 46, .ref 47, .int len, .ref 48, .ref 49, .ref 50, .ref 51, .ref 56])) n 0 0
  refine g_if_eq (tgt := 37) hX dX5_add_26 (by decide) (fun c => absurd c (by decide)) (fun _ => ?_)
  refine g_iload_n hX dX5_add_29 rfl rfl ?_
  refine g_iload_n hX dX5_add_30 rfl rfl ?_
  refine g_iconst (v := (nI 1)) hX dX5_add_31 (by decide) ?_
  refine g_ishl hX dX5_add_32 ?_
  refine g_iand hX dX5_add_33 ?_
  refine g_if_eq (tgt := 43) hX dX5_add_34 (by decide) (fun c1 => ?_) (fun c1 => absurd c1 (fun z => z ((chl_dec q hq).mpr hz)))
  refine g_aload_n hX dX5_add_43 rfl rfl ?_
  refine g_getf hX dX5_add_44 fl_X5_19 (hs_eq _ _ _) rfl ?_
  refine g_iload_n hX dX5_add_47 rfl rfl ?_
  refine g_iaload hX dX5_add_48 ((hs_ne (by omega)).trans (mmn)) (m) (by omega) rfl (by omega) ?_
  refine g_bipush (v := (nI 12)) hX dX5_add_49 (by decide) ?_
  refine g_icmp_neN (tgt := 60) hX dX5_add_51 (by decide) (by omega) (fun c2 => absurd c2 (by omega)) (fun c2 => ?_)
  refine g_aload_n hX dX5_add_54 rfl rfl ?_
  refine g_iconst (v := (nI 3)) hX dX5_add_55 (by decide) ?_
  refine g_callV (As := [.int (nI 3)]) hX dX5_add_56 cb_X5_no ml_X5_84 im_X5_no se_X5_no rfl rfl (hs_eq _ _ _) ⟨_, rfl, rfl⟩ (kX5_no hst (hs_eq _ _ _) ) (Nat.le_of_ble_eq_true rfl) (Nat.le_of_ble_eq_true rfl) (by omega) (by omega) (Nat.le_of_ble_eq_true rfl) GX.no (pq ?_)
  show GW X 59 [some (.ref 40), some (.int (nI m)), some (.int (nI q))] [.int (nI 0)] (hs (hs h 40 (oB 5 [.int (nI 0), .int (nI rc), .ref 41, .ref 42, .ref 43, .int (nI mc), .ref 44, .ref 45, .int tch, .int frs, .ref 46, .ref 47, .int len, .ref 48, .ref 49, .ref 50, .ref 51, .ref 56])) 40 (oB 5 [.int (nI 3), .int (nI rc), .ref 41, .ref 42, .ref 43, .int (nI mc), .ref 44, .ref 45, .int tch, .int frs, .ref 46, .ref 47, .int len, .ref 48, .ref 49, .ref 50, .ref 51, .ref 56])) n 0 0
  refine g_cg rfl hs_hs ?_
  refine g_ireturn hX hr dX5_add_59 (Nat.le_refl _) (Nat.le_refl _)  ?_
  exact ⟨rfl, rfl, fun j hj => (hs_ne (by omega)).trans (rfl), ⟨_, _, _, _, _, _, _, _, _, _, _, (hs_eq _ _ _), ((hs_ne (by omega)).trans (mco)), ((hs_ne (by omega)).trans (mdg)), ((hs_ne (by omega)).trans (mrw)), ((hs_ne (by omega)).trans (mgo)), ((hs_ne (by omega)).trans (mwe)), ((hs_ne (by omega)).trans (a0)), ((hs_ne (by omega)).trans (avt)), ((hs_ne (by omega)).trans (ati)), ((hs_ne (by omega)).trans (afa)), ((hs_ne (by omega)).trans (ast))⟩⟩
set_option maxRecDepth 20000 in
theorem kX5_add {l : Launch} {K : gw_K} (hst : l.stackTraces = false) {n : Nat} {h : gw_H} {rc mc : Nat} {thr tch frs len dy ady : Int32} {mn : Nat → Nat} {wd sk ws cs co dg rw_ go we vt ti fa st avt ati afa ast : Nat → Int32} {m q : Nat} (m0 : h 40 = (oB 5 [.int thr, .int (nI rc), .ref 41, .ref 42, .ref 43, .int (nI mc), .ref 44, .ref 45, .int tch, .int frs, .ref 46, .ref 47, .int len, .ref 48, .ref 49, .ref 50, .ref 51, .ref 56])) (mwd : h 41 = (aI 20 wd)) (msk : h 42 = (aI 20 sk)) (mws : h 43 = (aI 18 ws)) (mmn : h 44 = (aI 5 (fun k => nI (mn k)))) (mcs : h 45 = (aI 60 cs)) (mco : h 46 = (aI 201 co)) (mdg : h 47 = (aI 201 dg)) (mrw : h 48 = (aI 6 rw_)) (mgo : h 49 = (aI 6 go)) (mwe : h 50 = (aI 6 we)) (s0 : h 51 = (oB 4 [.int dy, .ref (51 + 1), .ref (51 + 2), .ref (51 + 3), .ref (51 + 4), .ref 40])) (svt : h (51 + 1) = (aI 20 vt)) (sti : h (51 + 2) = (aI 20 ti)) (sfa : h (51 + 3) = (aI 20 fa)) (sst : h (51 + 4) = (aI 20 st)) (a0 : h 56 = (oB 4 [.int ady, .ref (56 + 1), .ref (56 + 2), .ref (56 + 3), .ref (56 + 4), .ref 40])) (avt : h (56 + 1) = (aI 20 avt)) (ati : h (56 + 2) = (aI 20 ati)) (afa : h (56 + 3) = (aI 20 afa)) (ast : h (56 + 4) = (aI 20 ast)) (hn62 : 62 ≤ n) (hm5 : mc ≤ 5) (hk : m < mc) (hq : q < 32) (hz : q &&& (q >>> 1) = 0) (hf : mn m < 12) : Ctr l K mX5_add [.ref 40, .int (nI m), .int (nI q)] h n 0 0 (PM (some (.int (nI (mn m + 1)))) (hs (hs h 45 (aI 60 (upd cs (12 * m + mn m) (nI q)))) 44 (aI 5 (fun k => nI (updN mn m (mn m + 1) k)))) n (nI 0) rc mc tch frs) (PX0) := by
  refine Ctr.of hst pn_X5_add (Nat.le_of_ble_eq_true rfl) (fun X hX hr hE => ?_)
  have hX : FX l K X cX5_add RX5 2 43 0 0 := hX
  show GW X 0 [some (.ref 40), some (.int (nI m)), some (.int (nI q))] [] h n 0 0
  refine g_aload_n hX dX5_add_0 rfl rfl ?_
  refine g_iconst (v := (nI 0)) hX dX5_add_1 (by decide) ?_
  refine g_putI hX dX5_add_2 fl_X5_52 (m0) (Nat.le_of_ble_eq_true rfl) ?_
  show GW X 5 [some (.ref 40), some (.int (nI m)), some (.int (nI q))] [] (hs h 40 (oB 5 [.int (nI 0), .int (nI rc), .ref 41, .ref 42, .ref 43, .int (nI mc), .ref 44, .ref 45, .int tch, .int frs, .ref 46, .ref 47, .int len, .ref 48, .ref 49, .ref 50, .ref 51, .ref 56])) n 0 0
  refine g_aload_n hX dX5_add_5 rfl rfl ?_
  refine g_iload_n hX dX5_add_6 rfl rfl ?_
  refine g_callV (As := [.int (nI m)]) hX dX5_add_7 cb_X5_isMethod ml_X5_138 im_X5_isMethod se_X5_isMethod rfl rfl (hs_eq _ _ _) ⟨_, rfl, rfl⟩ (kX5_isMethod hst (hs_eq _ _ _) (hk) (by omega)) (Nat.le_of_ble_eq_true rfl) (Nat.le_of_ble_eq_true rfl) (by omega) (by omega) (Nat.le_of_ble_eq_true rfl) GX.no (pq ?_)
  show GW X 10 [some (.ref 40), some (.int (nI m)), some (.int (nI q))] [.int (nI 1)] (hs h 40 (oB 5 [.int (nI 0), .int (nI rc), .ref 41, .ref 42, .ref 43, .int (nI mc), .ref 44, .ref 45, .int tch, .int frs, .ref 46, .ref 47, .int len, .ref 48, .ref 49, .ref 50, .ref 51, .ref 56])) n 0 0
  refine g_if_ne (tgt := 19) hX dX5_add_10 (by decide) (fun _ => ?_) (fun c => absurd c (by decide))
  refine g_iload_n hX dX5_add_19 rfl rfl ?_
  refine g_iconst (v := (nI 0)) hX dX5_add_20 (by decide) ?_
  refine g_bipush (v := (nI 31)) hX dX5_add_21 (by decide) ?_
  refine g_callS (As := [.int (nI q), .int (nI 0), .int (nI 31)]) hX dX5_add_23 cb_X5_isIn ml_X5_59 st_X5_isIn rfl rfl (kX5_isIn hst (gn_okW (by omega) (by omega) (by omega))) (Nat.le_of_ble_eq_true rfl) (Nat.le_of_ble_eq_true rfl) (by omega) (by omega) (Nat.le_of_ble_eq_true rfl) GX.no (pq ?_)
  show GW X 26 [some (.ref 40), some (.int (nI m)), some (.int (nI q))] [.int (nI 1)] (hs h 40 (oB 5 [.int (nI 0), .int (nI rc), .ref 41, .ref 42, .ref 43, .int (nI mc), .ref 44, .ref 45, .int tch, .int frs, .ref 46, .ref 47, .int len, .ref 48, .ref 49, .ref 50, .ref 51, .ref 56])) n 0 0
  refine g_if_eq (tgt := 37) hX dX5_add_26 (by decide) (fun c => absurd c (by decide)) (fun _ => ?_)
  refine g_iload_n hX dX5_add_29 rfl rfl ?_
  refine g_iload_n hX dX5_add_30 rfl rfl ?_
  refine g_iconst (v := (nI 1)) hX dX5_add_31 (by decide) ?_
  refine g_ishl hX dX5_add_32 ?_
  refine g_iand hX dX5_add_33 ?_
  refine g_if_eq (tgt := 43) hX dX5_add_34 (by decide) (fun c1 => ?_) (fun c1 => absurd c1 (fun z => z ((chl_dec q hq).mpr hz)))
  refine g_aload_n hX dX5_add_43 rfl rfl ?_
  refine g_getf hX dX5_add_44 fl_X5_19 (hs_eq _ _ _) rfl ?_
  refine g_iload_n hX dX5_add_47 rfl rfl ?_
  refine g_iaload hX dX5_add_48 ((hs_ne (by omega)).trans (mmn)) (m) (by omega) rfl (by omega) ?_
  refine g_bipush (v := (nI 12)) hX dX5_add_49 (by decide) ?_
  refine g_icmp_neN (tgt := 60) hX dX5_add_51 (by decide) (by omega) (fun c2 => ?_) (fun c2 => absurd c2 (by omega))
  refine g_aload_n hX dX5_add_60 rfl rfl ?_
  refine g_getf hX dX5_add_61 fl_X5_22 (hs_eq _ _ _) rfl ?_
  refine g_bipush (v := (nI 12)) hX dX5_add_64 (by decide) ?_
  refine g_iload_n hX dX5_add_66 rfl rfl ?_
  refine g_imulN hX dX5_add_67 ?_
  refine g_aload_n hX dX5_add_68 rfl rfl ?_
  refine g_getf hX dX5_add_69 fl_X5_19 (hs_eq _ _ _) rfl ?_
  refine g_iload_n hX dX5_add_72 rfl rfl ?_
  refine g_iaload hX dX5_add_73 ((hs_ne (by omega)).trans (mmn)) (m) (by omega) rfl (by omega) ?_
  refine g_iaddN hX dX5_add_74 ?_
  refine g_iload_n hX dX5_add_75 rfl rfl ?_
  refine g_iastore hX dX5_add_76 ((hs_ne (by omega)).trans (mcs)) ((12 * m) + (mn m)) (by omega) rfl (by omega) ?_
  refine g_aload_n hX dX5_add_77 rfl rfl ?_
  refine g_getf hX dX5_add_78 fl_X5_19 ((hs_ne (by omega)).trans (hs_eq _ _ _)) rfl ?_
  refine g_iload_n hX dX5_add_81 rfl rfl ?_
  refine g_dup2 hX dX5_add_82 rfl rfl ?_
  refine g_iaload hX dX5_add_83 ((hs_ne (by omega)).trans ((hs_ne (by omega)).trans (mmn))) (m) (by omega) rfl (by omega) ?_
  refine g_iconst (v := (nI 1)) hX dX5_add_84 (by decide) ?_
  refine g_iaddN hX dX5_add_85 ?_
  refine g_iastore hX dX5_add_86 ((hs_ne (by omega)).trans ((hs_ne (by omega)).trans (mmn))) (m) (by omega) rfl (by omega) ?_
  refine g_heq (h' := (hs (hs (hs h 40 (oB 5 [.int (nI 0), .int (nI rc), .ref 41, .ref 42, .ref 43, .int (nI mc), .ref 44, .ref 45, .int tch, .int frs, .ref 46, .ref 47, .int len, .ref 48, .ref 49, .ref 50, .ref 51, .ref 56])) 45 (aI 60 (upd cs ((12 * m) + (mn m)) (nI q)))) 44 (aI 5 (fun k => nI (updN mn m (mn m + 1) k))))) (ceq_hs (ceq_hs (ceq_hs (fun _ => ceq_r) ceq_r) ceq_r) (ceq_I fun k hk => updN_at)) ?_
  show GW X 87 [some (.ref 40), some (.int (nI m)), some (.int (nI q))] [] (hs (hs (hs h 40 (oB 5 [.int (nI 0), .int (nI rc), .ref 41, .ref 42, .ref 43, .int (nI mc), .ref 44, .ref 45, .int tch, .int frs, .ref 46, .ref 47, .int len, .ref 48, .ref 49, .ref 50, .ref 51, .ref 56])) 45 (aI 60 (upd cs ((12 * m) + (mn m)) (nI q)))) 44 (aI 5 (fun k => nI (updN mn m (mn m + 1) k)))) n 0 0
  refine g_aload_n hX dX5_add_87 rfl rfl ?_
  refine g_getf hX dX5_add_88 fl_X5_19 ((hs_ne (by omega)).trans ((hs_ne (by omega)).trans (hs_eq _ _ _))) rfl ?_
  refine g_iload_n hX dX5_add_91 rfl rfl ?_
  refine g_iaload hX dX5_add_92 (hs_eq _ _ _) (m) (by omega) rfl (by omega) ?_
  refine g_ireturn hX hr dX5_add_93 (Nat.le_refl _) (Nat.le_refl _)  ?_
  exact ⟨by simp [updN], rfl, fun j hj => hs_cgj (hs_cgj ((hs_ne (by omega)).trans (rfl))), ⟨_, _, _, _, _, _, _, _, _, _, _, ((hs_ne (by omega)).trans ((hs_ne (by omega)).trans (hs_eq _ _ _))), ((hs_ne (by omega)).trans ((hs_ne (by omega)).trans ((hs_ne (by omega)).trans (mco)))), ((hs_ne (by omega)).trans ((hs_ne (by omega)).trans ((hs_ne (by omega)).trans (mdg)))), ((hs_ne (by omega)).trans ((hs_ne (by omega)).trans ((hs_ne (by omega)).trans (mrw)))), ((hs_ne (by omega)).trans ((hs_ne (by omega)).trans ((hs_ne (by omega)).trans (mgo)))), ((hs_ne (by omega)).trans ((hs_ne (by omega)).trans ((hs_ne (by omega)).trans (mwe)))), ((hs_ne (by omega)).trans ((hs_ne (by omega)).trans ((hs_ne (by omega)).trans (a0)))), ((hs_ne (by omega)).trans ((hs_ne (by omega)).trans ((hs_ne (by omega)).trans (avt)))), ((hs_ne (by omega)).trans ((hs_ne (by omega)).trans ((hs_ne (by omega)).trans (ati)))), ((hs_ne (by omega)).trans ((hs_ne (by omega)).trans ((hs_ne (by omega)).trans (afa)))), ((hs_ne (by omega)).trans ((hs_ne (by omega)).trans ((hs_ne (by omega)).trans (ast))))⟩⟩
set_option maxRecDepth 20000 in
theorem kX5_ringerTold {l : Launch} {K : gw_K} (hst : l.stackTraces = false) {n : Nat} {h : gw_H} {t : Nat} {dy : Int32} {rc mc : Nat} {thr tch frs len : Int32} {wd sk vt ti fa st : Nat → Int32} {r q : Nat} (m0 : h 40 = (oB 5 [.int thr, .int (nI rc), .ref 41, .ref 42, .ref 43, .int (nI mc), .ref 44, .ref 45, .int tch, .int frs, .ref 46, .ref 47, .int len, .ref 48, .ref 49, .ref 50, .ref 51, .ref 56])) (mwd : h 41 = (aI 20 wd)) (msk : h 42 = (aI 20 sk)) (s0 : h t = (oB 4 [.int dy, .ref (t + 1), .ref (t + 2), .ref (t + 3), .ref (t + 4), .ref 40])) (svt : h (t + 1) = (aI 20 vt)) (sti : h (t + 2) = (aI 20 ti)) (sfa : h (t + 3) = (aI 20 fa)) (sst : h (t + 4) = (aI 20 st)) (hn62 : 62 ≤ n) (ht : t + 4 < 62) (hrc : rc ≤ 20) (hrr : r < rc) (hq : q < 8) (hso : ∀ r, r < rc → seatOK (st r)) : Ctr l K mX5_ringerTold [.ref 40, .ref t, .int (nI r), .int (nI q)] h n 1 8 (PA (some (.int (tellI wd sk vt ti fa st rc r q))) h n) (PX0) := by
  refine Ctr.of hst pn_X5_ringerTold (Nat.le_of_ble_eq_true rfl) (fun X hX hr hE => ?_)
  have hX : FX l K X cX5_ringerTold RX5 0 0 1 8 := hX
  show GW X 0 [some (.ref 40), some (.ref t), some (.int (nI r)), some (.int (nI q)), none, none, none] [] h n 0 0
  have hn9 := so_neg (hso r hrr)
  refine g_iconst (v := (nI 1)) hX dX5_ringerTold_0 (by decide) ?_
  refine g_istore hX dX5_ringerTold_1 (Nat.le_of_ble_eq_true rfl) rfl ?_
  refine g_iconst (v := (nI 0)) hX dX5_ringerTold_3 (by decide) ?_
  refine g_istore hX dX5_ringerTold_4 (Nat.le_of_ble_eq_true rfl) rfl ?_
  refine g_for (P := fun (i : Nat) (s : Int32) => GW X 6 [some (.ref 40), some (.ref t), some (.int (nI r)), some (.int (nI q)), some (.int s), some (.int (nI i)), none] [] h n 0 0) (step := fun i s => if wd i = wd r ∧ vt r < vt i then s + 1 else s) rc (nI 1) ?_ ?_
  · intro i1 s2 hi1 es2 ihi1
    have ihi1 : GW X 6 [some (.ref 40), some (.ref t), some (.int (nI r)), some (.int (nI q)), some (.int (if wd i1 = wd r ∧ vt r < vt i1 then s2 + 1 else s2)), some (.int (nI (i1 + 1))), none] [] h n 0 0 := ihi1
    refine g_iload hX dX5_ringerTold_6 rfl ?_
    refine g_aload_n hX dX5_ringerTold_8 rfl rfl ?_
    refine g_getf hX dX5_ringerTold_9 fl_X5_56 (m0) rfl ?_
    refine g_icmp_geN (tgt := 63) hX dX5_ringerTold_12 (by decide) (by omega) (fun c3 => absurd c3 (by omega)) (fun c3 => ?_)
    refine g_iload hX dX5_ringerTold_15 rfl ?_
    refine g_aload_n hX dX5_ringerTold_17 rfl rfl ?_
    refine g_getf hX dX5_ringerTold_18 fl_X5_9 (m0) rfl ?_
    refine g_iload hX dX5_ringerTold_21 rfl ?_
    refine g_iaload hX dX5_ringerTold_23 (mwd) (i1) (by omega) rfl (by omega) ?_
    refine g_aload_n hX dX5_ringerTold_24 rfl rfl ?_
    refine g_getf hX dX5_ringerTold_25 fl_X5_9 (m0) rfl ?_
    refine g_iload_n hX dX5_ringerTold_28 rfl rfl ?_
    refine g_iaload hX dX5_ringerTold_29 (mwd) (r) (by omega) rfl (by omega) ?_
    refine g_icmp_ne (tgt := 53) hX dX5_ringerTold_30 (by decide) (fun c4 => ?_) (fun c4 => ?_)
    · refine g_iconst (v := (nI 0)) hX dX5_ringerTold_53 (by decide) ?_
      refine g_iadd hX dX5_ringerTold_54 ?_
      refine g_istore hX dX5_ringerTold_55 (Nat.le_of_ble_eq_true rfl) rfl ?_
      refine g_iinc (v := (nI (i1 + 1))) hX dX5_ringerTold_57 rfl rfl (gn_inc _ _) ?_
      refine g_goto (tgt := 6) hX dX5_ringerTold_60 (by decide) ?_
      refine g_cv ihi1 (by simp [gn_a0, gn_one, c3, c4]) rfl
    · refine g_aload_n hX dX5_ringerTold_33 rfl rfl ?_
      refine g_getf hX dX5_ringerTold_34 fl_X5_88 (s0) rfl ?_
      refine g_iload hX dX5_ringerTold_37 rfl ?_
      refine g_iaload hX dX5_ringerTold_39 (svt) (i1) (by omega) rfl (by omega) ?_
      refine g_aload_n hX dX5_ringerTold_40 rfl rfl ?_
      refine g_getf hX dX5_ringerTold_41 fl_X5_88 (s0) rfl ?_
      refine g_iload_n hX dX5_ringerTold_44 rfl rfl ?_
      refine g_iaload hX dX5_ringerTold_45 (svt) (r) (by omega) rfl (by omega) ?_
      refine g_icmp_le (tgt := 53) hX dX5_ringerTold_46 (by decide) (fun c5 => ?_) (fun c5 => ?_)
      · refine g_iconst (v := (nI 0)) hX dX5_ringerTold_53 (by decide) ?_
        refine g_iadd hX dX5_ringerTold_54 ?_
        refine g_istore hX dX5_ringerTold_55 (Nat.le_of_ble_eq_true rfl) rfl ?_
        refine g_iinc (v := (nI (i1 + 1))) hX dX5_ringerTold_57 rfl rfl (gn_inc _ _) ?_
        refine g_goto (tgt := 6) hX dX5_ringerTold_60 (by decide) ?_
        refine g_cv ihi1 (by simp [gn_a0, gn_one, c3, c4, c5, gn_ile.mpr c5]) rfl
      · refine g_iconst (v := (nI 1)) hX dX5_ringerTold_49 (by decide) ?_
        refine g_goto (tgt := 54) hX dX5_ringerTold_50 (by decide) ?_
        refine g_iadd hX dX5_ringerTold_54 ?_
        refine g_istore hX dX5_ringerTold_55 (Nat.le_of_ble_eq_true rfl) rfl ?_
        refine g_iinc (v := (nI (i1 + 1))) hX dX5_ringerTold_57 rfl rfl (gn_inc _ _) ?_
        refine g_goto (tgt := 6) hX dX5_ringerTold_60 (by decide) ?_
        refine g_cv ihi1 (by simp [gn_a0, gn_one, c3, c4, c5, gn_ilt.mp c5]) rfl
  · show GW X 6 [some (.ref 40), some (.ref t), some (.int (nI r)), some (.int (nI q)), some (.int (rankI wd vt rc r)), some (.int (nI rc)), none] [] h n 0 0
    refine g_iload hX dX5_ringerTold_6 rfl ?_
    refine g_aload_n hX dX5_ringerTold_8 rfl rfl ?_
    refine g_getf hX dX5_ringerTold_9 fl_X5_56 (m0) rfl ?_
    refine g_icmp_geN (tgt := 63) hX dX5_ringerTold_12 (by decide) (by omega) (fun c6 => ?_) (fun c6 => absurd c6 (by omega))
    refine g_aload_n hX dX5_ringerTold_63 rfl rfl ?_
    refine g_getf hX dX5_ringerTold_64 fl_X5_91 (s0) rfl ?_
    refine g_iload_n hX dX5_ringerTold_67 rfl rfl ?_
    refine g_iaload hX dX5_ringerTold_68 (sst) (r) (by omega) rfl (by omega) ?_
    refine g_istore hX dX5_ringerTold_69 (Nat.le_of_ble_eq_true rfl) rfl ?_
    refine g_bipush (v := (nI 8)) hX dX5_ringerTold_71 (by decide) ?_
    refine g_newa_aI hX dX5_ringerTold_73 w_arrI (8) rfl (by omega) (by omega) (by omega) ?_
    refine g_dup hX dX5_ringerTold_75 rfl ?_
    refine g_iconst (v := (nI 0)) hX dX5_ringerTold_76 (by decide) ?_
    refine g_aload_n hX dX5_ringerTold_77 rfl rfl ?_
    refine g_getf hX dX5_ringerTold_78 fl_X5_9 ((hs_ne (by omega)).trans (m0)) rfl ?_
    refine g_iload_n hX dX5_ringerTold_81 rfl rfl ?_
    refine g_iaload hX dX5_ringerTold_82 ((hs_ne (by omega)).trans (mwd)) (r) (by omega) rfl (by omega) ?_
    refine g_iastore hX dX5_ringerTold_83 (hs_eq _ _ _) (0) (by omega) rfl (by omega) ?_
    refine g_cg rfl hs_hs ?_
    refine g_dup hX dX5_ringerTold_84 rfl ?_
    refine g_iconst (v := (nI 1)) hX dX5_ringerTold_85 (by decide) ?_
    refine g_aload_n hX dX5_ringerTold_86 rfl rfl ?_
    refine g_getf hX dX5_ringerTold_87 fl_X5_13 ((hs_ne (by omega)).trans (m0)) rfl ?_
    refine g_iload_n hX dX5_ringerTold_90 rfl rfl ?_
    refine g_iaload hX dX5_ringerTold_91 ((hs_ne (by omega)).trans (msk)) (r) (by omega) rfl (by omega) ?_
    refine g_iastore hX dX5_ringerTold_92 (hs_eq _ _ _) (1) (by omega) rfl (by omega) ?_
    refine g_cg rfl hs_hs ?_
    refine g_dup hX dX5_ringerTold_93 rfl ?_
    refine g_iconst (v := (nI 2)) hX dX5_ringerTold_94 (by decide) ?_
    refine g_aload_n hX dX5_ringerTold_95 rfl rfl ?_
    refine g_getf hX dX5_ringerTold_96 fl_X5_88 ((hs_ne (by omega)).trans (s0)) rfl ?_
    refine g_iload_n hX dX5_ringerTold_99 rfl rfl ?_
    refine g_iaload hX dX5_ringerTold_100 ((hs_ne (by omega)).trans (svt)) (r) (by omega) rfl (by omega) ?_
    refine g_iastore hX dX5_ringerTold_101 (hs_eq _ _ _) (2) (by omega) rfl (by omega) ?_
    refine g_cg rfl hs_hs ?_
    refine g_dup hX dX5_ringerTold_102 rfl ?_
    refine g_iconst (v := (nI 3)) hX dX5_ringerTold_103 (by decide) ?_
    refine g_aload_n hX dX5_ringerTold_104 rfl rfl ?_
    refine g_getf hX dX5_ringerTold_105 fl_X5_120 ((hs_ne (by omega)).trans (s0)) rfl ?_
    refine g_iload_n hX dX5_ringerTold_108 rfl rfl ?_
    refine g_iaload hX dX5_ringerTold_109 ((hs_ne (by omega)).trans (sti)) (r) (by omega) rfl (by omega) ?_
    refine g_iastore hX dX5_ringerTold_110 (hs_eq _ _ _) (3) (by omega) rfl (by omega) ?_
    refine g_cg rfl hs_hs ?_
    refine g_dup hX dX5_ringerTold_111 rfl ?_
    refine g_iconst (v := (nI 4)) hX dX5_ringerTold_112 (by decide) ?_
    refine g_iload hX dX5_ringerTold_113 rfl ?_
    refine g_if_ge (tgt := 122) hX dX5_ringerTold_115 (by decide) (fun c7 => ?_) (fun c7 => ?_)
    · refine g_iload hX dX5_ringerTold_122 rfl ?_
      refine g_bipush (v := (nI 6)) hX dX5_ringerTold_124 (by decide) ?_
      refine g_idiv hX dX5_ringerTold_126 (by decide) ?_
      refine g_top (v' := .int (bandI (st r))) (by rw [bandI, if_neg (fun q => (gn_ile.mpr c7) (hn9.mpr q))]) ?_
      refine g_iastore hX dX5_ringerTold_127 (hs_eq _ _ _) (4) (by omega) rfl (by omega) ?_
      refine g_cg rfl hs_hs ?_
      refine g_dup hX dX5_ringerTold_128 rfl ?_
      refine g_iconst (v := (nI 5)) hX dX5_ringerTold_129 (by decide) ?_
      refine g_iload hX dX5_ringerTold_130 rfl ?_
      refine g_if_ge (tgt := 139) hX dX5_ringerTold_132 (by decide) (fun c8 => ?_) (fun c8 => absurd c8 (fun q => q c7))
      refine g_iload hX dX5_ringerTold_139 rfl ?_
      refine g_bipush (v := (nI 6)) hX dX5_ringerTold_141 (by decide) ?_
      refine g_irem hX dX5_ringerTold_143 (by decide) ?_
      refine g_top (v' := .int (bellI (st r))) (by rw [bellI, if_neg (fun q => (gn_ile.mpr c7) (hn9.mpr q))]) ?_
      refine g_iastore hX dX5_ringerTold_144 (hs_eq _ _ _) (5) (by omega) rfl (by omega) ?_
      refine g_cg rfl hs_hs ?_
      refine g_dup hX dX5_ringerTold_145 rfl ?_
      refine g_bipush (v := (nI 6)) hX dX5_ringerTold_146 (by decide) ?_
      refine g_aload_n hX dX5_ringerTold_148 rfl rfl ?_
      refine g_getf hX dX5_ringerTold_149 fl_X5_123 ((hs_ne (by omega)).trans (s0)) rfl ?_
      refine g_iload_n hX dX5_ringerTold_152 rfl rfl ?_
      refine g_iaload hX dX5_ringerTold_153 ((hs_ne (by omega)).trans (sfa)) (r) (by omega) rfl (by omega) ?_
      refine g_iastore hX dX5_ringerTold_154 (hs_eq _ _ _) (6) (by omega) rfl (by omega) ?_
      refine g_cg rfl hs_hs ?_
      refine g_dup hX dX5_ringerTold_155 rfl ?_
      refine g_bipush (v := (nI 7)) hX dX5_ringerTold_156 (by decide) ?_
      refine g_iload hX dX5_ringerTold_158 rfl ?_
      refine g_iastore hX dX5_ringerTold_160 (hs_eq _ _ _) (7) (by omega) rfl (by omega) ?_
      refine g_cg rfl hs_hs ?_
      refine g_astore hX dX5_ringerTold_161 (Nat.le_of_ble_eq_true rfl) rfl ?_
      refine g_aload hX dX5_ringerTold_163 rfl ?_
      refine g_iload_n hX dX5_ringerTold_165 rfl rfl ?_
      refine g_iaload hX dX5_ringerTold_166 (hs_eq _ _ _) (q) (by omega) rfl (by omega) ?_
      refine g_ireturn hX hr dX5_ringerTold_167 (by omega) (by omega)  ?_
      exact ⟨by rcases (show q = 0 ∨ q = 1 ∨ q = 2 ∨ q = 3 ∨ q = 4 ∨ q = 5 ∨ q = 6 ∨ q = 7 by omega) with rfl | rfl | rfl | rfl | rfl | rfl | rfl | rfl <;> rfl, rfl, fun j hj => (hs_ne (by omega)).trans (rfl)⟩
    · refine g_iconst (v := (-1)) hX dX5_ringerTold_118 (by decide) ?_
      refine g_goto (tgt := 127) hX dX5_ringerTold_119 (by decide) ?_
      refine g_top (v' := .int (bandI (st r))) (by rw [bandI, if_pos (hn9.mp (gn_ilt.mp c7))]) ?_
      refine g_iastore hX dX5_ringerTold_127 (hs_eq _ _ _) (4) (by omega) rfl (by omega) ?_
      refine g_cg rfl hs_hs ?_
      refine g_dup hX dX5_ringerTold_128 rfl ?_
      refine g_iconst (v := (nI 5)) hX dX5_ringerTold_129 (by decide) ?_
      refine g_iload hX dX5_ringerTold_130 rfl ?_
      refine g_if_ge (tgt := 139) hX dX5_ringerTold_132 (by decide) (fun c9 => absurd c9 c7) (fun c9 => ?_)
      refine g_iconst (v := (-1)) hX dX5_ringerTold_135 (by decide) ?_
      refine g_goto (tgt := 144) hX dX5_ringerTold_136 (by decide) ?_
      refine g_top (v' := .int (bellI (st r))) (by rw [bellI, if_pos (hn9.mp (gn_ilt.mp c7))]) ?_
      refine g_iastore hX dX5_ringerTold_144 (hs_eq _ _ _) (5) (by omega) rfl (by omega) ?_
      refine g_cg rfl hs_hs ?_
      refine g_dup hX dX5_ringerTold_145 rfl ?_
      refine g_bipush (v := (nI 6)) hX dX5_ringerTold_146 (by decide) ?_
      refine g_aload_n hX dX5_ringerTold_148 rfl rfl ?_
      refine g_getf hX dX5_ringerTold_149 fl_X5_123 ((hs_ne (by omega)).trans (s0)) rfl ?_
      refine g_iload_n hX dX5_ringerTold_152 rfl rfl ?_
      refine g_iaload hX dX5_ringerTold_153 ((hs_ne (by omega)).trans (sfa)) (r) (by omega) rfl (by omega) ?_
      refine g_iastore hX dX5_ringerTold_154 (hs_eq _ _ _) (6) (by omega) rfl (by omega) ?_
      refine g_cg rfl hs_hs ?_
      refine g_dup hX dX5_ringerTold_155 rfl ?_
      refine g_bipush (v := (nI 7)) hX dX5_ringerTold_156 (by decide) ?_
      refine g_iload hX dX5_ringerTold_158 rfl ?_
      refine g_iastore hX dX5_ringerTold_160 (hs_eq _ _ _) (7) (by omega) rfl (by omega) ?_
      refine g_cg rfl hs_hs ?_
      refine g_astore hX dX5_ringerTold_161 (Nat.le_of_ble_eq_true rfl) rfl ?_
      refine g_aload hX dX5_ringerTold_163 rfl ?_
      refine g_iload_n hX dX5_ringerTold_165 rfl rfl ?_
      refine g_iaload hX dX5_ringerTold_166 (hs_eq _ _ _) (q) (by omega) rfl (by omega) ?_
      refine g_ireturn hX hr dX5_ringerTold_167 (by omega) (by omega)  ?_
      exact ⟨by rcases (show q = 0 ∨ q = 1 ∨ q = 2 ∨ q = 3 ∨ q = 4 ∨ q = 5 ∨ q = 6 ∨ q = 7 by omega) with rfl | rfl | rfl | rfl | rfl | rfl | rfl | rfl <;> rfl, rfl, fun j hj => (hs_ne (by omega)).trans (rfl)⟩
set_option maxRecDepth 20000 in
theorem kX5_bellTold {l : Launch} {K : gw_K} (hst : l.stackTraces = false) {n : Nat} {h : gw_H} {rc mc : Nat} {thr tch frs len dy ady : Int32} {mn : Nat → Nat} {wd sk ws cs co dg rw_ go we vt ti fa st avt ati afa ast : Nat → Int32} {b k q : Nat} (m0 : h 40 = (oB 5 [.int thr, .int (nI rc), .ref 41, .ref 42, .ref 43, .int (nI mc), .ref 44, .ref 45, .int tch, .int frs, .ref 46, .ref 47, .int len, .ref 48, .ref 49, .ref 50, .ref 51, .ref 56])) (mwd : h 41 = (aI 20 wd)) (msk : h 42 = (aI 20 sk)) (mws : h 43 = (aI 18 ws)) (mmn : h 44 = (aI 5 (fun k => nI (mn k)))) (mcs : h 45 = (aI 60 cs)) (mco : h 46 = (aI 201 co)) (mdg : h 47 = (aI 201 dg)) (mrw : h 48 = (aI 6 rw_)) (mgo : h 49 = (aI 6 go)) (mwe : h 50 = (aI 6 we)) (s0 : h 51 = (oB 4 [.int dy, .ref (51 + 1), .ref (51 + 2), .ref (51 + 3), .ref (51 + 4), .ref 40])) (svt : h (51 + 1) = (aI 20 vt)) (sti : h (51 + 2) = (aI 20 ti)) (sfa : h (51 + 3) = (aI 20 fa)) (sst : h (51 + 4) = (aI 20 st)) (a0 : h 56 = (oB 4 [.int ady, .ref (56 + 1), .ref (56 + 2), .ref (56 + 3), .ref (56 + 4), .ref 40])) (avt : h (56 + 1) = (aI 20 avt)) (ati : h (56 + 2) = (aI 20 ati)) (afa : h (56 + 3) = (aI 20 afa)) (ast : h (56 + 4) = (aI 20 ast)) (hn62 : 62 ≤ n) (hrc : rc ≤ 20) (hsi : seatI st rc) (hvp : ∀ r, r < rc → 0 ≤ vt r) (hb3 : b < 3) (hk6 : k < 6) (hq : q < 3) : Ctr l K mX5_bellTold [.ref 40, .int (nI b), .int (nI k), .int (nI q)] h n 0 0 (PM (some (.int (bellT wd vt ws st rc b k q))) h n thr rc mc tch frs) (PX0) := by
  refine Ctr.of hst pn_X5_bellTold (Nat.le_of_ble_eq_true rfl) (fun X hX hr hE => ?_)
  have hX : FX l K X cX5_bellTold RX5 3 103 0 0 := hX
  show GW X 0 [some (.ref 40), some (.int (nI b)), some (.int (nI k)), some (.int (nI q)), none] [] h n 0 0
  have hso9 : ∀ r, r < rc → seatOK (st r) := fun r hr => (hsi r hr).1
  refine g_bipush (v := (nI 6)) hX dX5_bellTold_0 (by decide) ?_
  refine g_iload_n hX dX5_bellTold_2 rfl rfl ?_
  refine g_imulN hX dX5_bellTold_3 ?_
  refine g_iload_n hX dX5_bellTold_4 rfl rfl ?_
  refine g_iaddN hX dX5_bellTold_5 ?_
  refine g_istore hX dX5_bellTold_6 (Nat.le_of_ble_eq_true rfl) rfl ?_
  refine g_iload_n hX dX5_bellTold_8 rfl rfl ?_
  refine g_if_neN (tgt := 22) hX dX5_bellTold_9 (by decide) (by omega) (fun c1 => ?_) (fun c1 => ?_)
  · refine g_iload_n hX dX5_bellTold_22 rfl rfl ?_
    refine g_iconst (v := (nI 1)) hX dX5_bellTold_23 (by decide) ?_
    refine g_icmp_neN (tgt := 39) hX dX5_bellTold_24 (by decide) (by omega) (fun c2 => ?_) (fun c2 => ?_)
    · refine g_aload_n hX dX5_bellTold_39 rfl rfl ?_
      refine g_getf hX dX5_bellTold_40 fl_X5_49 (m0) rfl ?_
      refine g_aload_n hX dX5_bellTold_43 rfl rfl ?_
      refine g_getf hX dX5_bellTold_44 fl_X5_45 (m0) rfl ?_
      refine g_callV (As := [.ref 51]) hX dX5_bellTold_47 cb_X4_become ml_X5_130 im_X4_become se_X4_become rfl rfl (a0) ⟨_, rfl, rfl⟩ (kX4_become hst (by omega) (a0) (avt) (ati) (afa) (ast) (s0) (svt) (sti) (sfa) (sst)) (Nat.le_of_ble_eq_true rfl) (Nat.le_of_ble_eq_true rfl) (by omega) (by omega) (Nat.le_of_ble_eq_true rfl) GX.no (pq ?_)
      show GW X 50 [some (.ref 40), some (.int (nI b)), some (.int (nI k)), some (.int (nI q)), some (.int (nI ((6 * b) + k)))] [.ref 56] (hs (hs (hs (hs (hs h 56 (oB 4 [.int dy, .ref (56 + 1), .ref (56 + 2), .ref (56 + 3), .ref (56 + 4), .ref 40])) (56 + 1) (aI 20 vt)) (56 + 2) (aI 20 ti)) (56 + 3) (aI 20 fa)) (56 + 4) (aI 20 st)) n 0 0
      refine g_iload_n hX dX5_bellTold_50 rfl rfl ?_
      refine g_callV (As := [.int (nI b)]) hX dX5_bellTold_51 cb_X4_elect ml_X5_110 im_X4_elect se_X4_elect rfl rfl ((hs_ne (by omega)).trans ((hs_ne (by omega)).trans ((hs_ne (by omega)).trans ((hs_ne (by omega)).trans (hs_eq _ _ _))))) ⟨_, rfl, rfl⟩ (kX4_elect hst ((hs_ne (by omega)).trans ((hs_ne (by omega)).trans ((hs_ne (by omega)).trans ((hs_ne (by omega)).trans ((hs_ne (by omega)).trans (m0)))))) ((hs_ne (by omega)).trans ((hs_ne (by omega)).trans ((hs_ne (by omega)).trans ((hs_ne (by omega)).trans ((hs_ne (by omega)).trans (mwd)))))) ((hs_ne (by omega)).trans ((hs_ne (by omega)).trans ((hs_ne (by omega)).trans ((hs_ne (by omega)).trans ((hs_ne (by omega)).trans (mws)))))) ((hs_ne (by omega)).trans ((hs_ne (by omega)).trans ((hs_ne (by omega)).trans ((hs_ne (by omega)).trans (hs_eq _ _ _))))) ((hs_ne (by omega)).trans ((hs_ne (by omega)).trans ((hs_ne (by omega)).trans (hs_eq _ _ _)))) (hs_eq _ _ _) (by omega) (by omega) (by omega) (hso9) (hvp)) (Nat.le_of_ble_eq_true rfl) (Nat.le_of_ble_eq_true rfl) (by omega) (by omega) (Nat.le_of_ble_eq_true rfl) GX.no (pq ?_)
      show GW X 54 [some (.ref 40), some (.int (nI b)), some (.int (nI k)), some (.int (nI q)), some (.int (nI ((6 * b) + k)))] [.ref 56] (hs (hs (hs (hs (hs (hs h 56 (oB 4 [.int dy, .ref (56 + 1), .ref (56 + 2), .ref (56 + 3), .ref (56 + 4), .ref 40])) (56 + 1) (aI 20 vt)) (56 + 2) (aI 20 ti)) (56 + 3) (aI 20 fa)) (56 + 4) (aI 20 st)) (56 + 4) (aI 20 (elB wd vt ws rc st b))) n 0 0
      refine g_cg rfl hs_hs ?_
      refine g_iload hX dX5_bellTold_54 rfl ?_
      refine g_callV (As := [.int (nI ((6 * b) + k))]) hX dX5_bellTold_56 cb_X4_ringerOf ml_X5_117 im_X4_ringerOf se_X4_ringerOf rfl rfl ((hs_ne (by omega)).trans ((hs_ne (by omega)).trans ((hs_ne (by omega)).trans ((hs_ne (by omega)).trans (hs_eq _ _ _))))) ⟨_, rfl, rfl⟩ (kX4_ringerOf hst ((hs_ne (by omega)).trans ((hs_ne (by omega)).trans ((hs_ne (by omega)).trans ((hs_ne (by omega)).trans ((hs_ne (by omega)).trans (m0)))))) ((hs_ne (by omega)).trans ((hs_ne (by omega)).trans ((hs_ne (by omega)).trans ((hs_ne (by omega)).trans (hs_eq _ _ _))))) (hs_eq _ _ _) (by omega)) (Nat.le_of_ble_eq_true rfl) (Nat.le_of_ble_eq_true rfl) (by omega) (by omega) (Nat.le_of_ble_eq_true rfl) GX.no (pq ?_)
      show GW X 59 [some (.ref 40), some (.int (nI b)), some (.int (nI k)), some (.int (nI q)), some (.int (nI ((6 * b) + k)))] [.int (atI (elB wd vt ws rc st b) rc (nI ((6 * b) + k)))] (hs (hs (hs (hs (hs h 56 (oB 4 [.int dy, .ref (56 + 1), .ref (56 + 2), .ref (56 + 3), .ref (56 + 4), .ref 40])) (56 + 1) (aI 20 vt)) (56 + 2) (aI 20 ti)) (56 + 3) (aI 20 fa)) (56 + 4) (aI 20 (elB wd vt ws rc st b))) n 0 0
      refine g_ireturn hX hr dX5_bellTold_59 (Nat.le_refl _) (Nat.le_refl _)  ?_
      exact ⟨by rw [bellT, if_neg c1, if_neg (by omega), Nat.mul_comm], rfl, fun j hj => (hs_ne (by omega)).trans ((hs_ne (by omega)).trans ((hs_ne (by omega)).trans ((hs_ne (by omega)).trans ((hs_ne (by omega)).trans (rfl))))), ⟨_, _, _, _, _, _, _, _, _, _, _, ((hs_ne (by omega)).trans ((hs_ne (by omega)).trans ((hs_ne (by omega)).trans ((hs_ne (by omega)).trans ((hs_ne (by omega)).trans (m0)))))), ((hs_ne (by omega)).trans ((hs_ne (by omega)).trans ((hs_ne (by omega)).trans ((hs_ne (by omega)).trans ((hs_ne (by omega)).trans (mco)))))), ((hs_ne (by omega)).trans ((hs_ne (by omega)).trans ((hs_ne (by omega)).trans ((hs_ne (by omega)).trans ((hs_ne (by omega)).trans (mdg)))))), ((hs_ne (by omega)).trans ((hs_ne (by omega)).trans ((hs_ne (by omega)).trans ((hs_ne (by omega)).trans ((hs_ne (by omega)).trans (mrw)))))), ((hs_ne (by omega)).trans ((hs_ne (by omega)).trans ((hs_ne (by omega)).trans ((hs_ne (by omega)).trans ((hs_ne (by omega)).trans (mgo)))))), ((hs_ne (by omega)).trans ((hs_ne (by omega)).trans ((hs_ne (by omega)).trans ((hs_ne (by omega)).trans ((hs_ne (by omega)).trans (mwe)))))), ((hs_ne (by omega)).trans ((hs_ne (by omega)).trans ((hs_ne (by omega)).trans ((hs_ne (by omega)).trans (hs_eq _ _ _))))), ((hs_ne (by omega)).trans ((hs_ne (by omega)).trans ((hs_ne (by omega)).trans (hs_eq _ _ _)))), ((hs_ne (by omega)).trans ((hs_ne (by omega)).trans (hs_eq _ _ _))), ((hs_ne (by omega)).trans (hs_eq _ _ _)), (hs_eq _ _ _)⟩⟩
    · refine g_aload_n hX dX5_bellTold_27 rfl rfl ?_
      refine g_getf hX dX5_bellTold_28 fl_X5_45 (m0) rfl ?_
      refine g_iload hX dX5_bellTold_31 rfl ?_
      refine g_callV (As := [.int (nI ((6 * b) + k))]) hX dX5_bellTold_33 cb_X4_ringerOf ml_X5_117 im_X4_ringerOf se_X4_ringerOf rfl rfl (s0) ⟨_, rfl, rfl⟩ (kX4_ringerOf hst (m0) (s0) (sst) (by omega)) (Nat.le_of_ble_eq_true rfl) (Nat.le_of_ble_eq_true rfl) (by omega) (by omega) (Nat.le_of_ble_eq_true rfl) GX.no (pq ?_)
      show GW X 36 [some (.ref 40), some (.int (nI b)), some (.int (nI k)), some (.int (nI q)), some (.int (nI ((6 * b) + k)))] [.int (atI st rc (nI ((6 * b) + k)))] h n 0 0
      refine g_goto (tgt := 59) hX dX5_bellTold_36 (by decide) ?_
      refine g_ireturn hX hr dX5_bellTold_59 (Nat.le_refl _) (Nat.le_refl _)  ?_
      exact ⟨by rw [bellT, if_neg c1, if_pos (by omega), Nat.mul_comm], rfl, fun j hj => rfl, ⟨_, _, _, _, _, _, _, _, _, _, _, m0, mco, mdg, mrw, mgo, mwe, a0, avt, ati, afa, ast⟩⟩
  · refine g_aload_n hX dX5_bellTold_12 rfl rfl ?_
    refine g_getf hX dX5_bellTold_13 fl_X5_16 (m0) rfl ?_
    refine g_iload hX dX5_bellTold_16 rfl ?_
    refine g_iaload hX dX5_bellTold_18 (mws) ((6 * b) + k) (by omega) rfl (by omega) ?_
    refine g_goto (tgt := 59) hX dX5_bellTold_19 (by decide) ?_
    refine g_ireturn hX hr dX5_bellTold_59 (Nat.le_refl _) (Nat.le_refl _)  ?_
    exact ⟨by rw [bellT, if_pos c1, Nat.mul_comm], rfl, fun j hj => rfl, ⟨_, _, _, _, _, _, _, _, _, _, _, m0, mco, mdg, mrw, mgo, mwe, a0, avt, ati, afa, ast⟩⟩
