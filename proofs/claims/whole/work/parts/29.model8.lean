set_option maxRecDepth 20000 in
theorem kX5_advise_b {l : Launch} {K : gw_K} (hst : l.stackTraces = false) {n : Nat} {h : gw_H} {rc mc : Nat} {thr tch frs len dy ady : Int32} {mn : Nat → Nat} {wd sk ws cs co dg rw_ go we vt ti fa st avt ati afa ast : Nat → Int32} {a : Int32} (m0 : h 40 = (oB 5 [.int thr, .int (nI rc), .ref 41, .ref 42, .ref 43, .int (nI mc), .ref 44, .ref 45, .int tch, .int frs, .ref 46, .ref 47, .int len, .ref 48, .ref 49, .ref 50, .ref 51, .ref 56])) (mwd : h 41 = (aI 20 wd)) (msk : h 42 = (aI 20 sk)) (mws : h 43 = (aI 18 ws)) (mmn : h 44 = (aI 5 (fun k => nI (mn k)))) (mcs : h 45 = (aI 60 cs)) (mco : h 46 = (aI 201 co)) (mdg : h 47 = (aI 201 dg)) (mrw : h 48 = (aI 6 rw_)) (mgo : h 49 = (aI 6 go)) (mwe : h 50 = (aI 6 we)) (s0 : h 51 = (oB 4 [.int dy, .ref (51 + 1), .ref (51 + 2), .ref (51 + 3), .ref (51 + 4), .ref 40])) (svt : h (51 + 1) = (aI 20 vt)) (sti : h (51 + 2) = (aI 20 ti)) (sfa : h (51 + 3) = (aI 20 fa)) (sst : h (51 + 4) = (aI 20 st)) (a0 : h 56 = (oB 4 [.int ady, .ref (56 + 1), .ref (56 + 2), .ref (56 + 3), .ref (56 + 4), .ref 40])) (avt : h (56 + 1) = (aI 20 avt)) (ati : h (56 + 2) = (aI 20 ati)) (afa : h (56 + 3) = (aI 20 afa)) (ast : h (56 + 4) = (aI 20 ast)) (hn62 : 62 ≤ n) (hz : a < 0 ∨ nI 3 ≤ a) : Ctr l K mX5_advise [.ref 40, .int a] h n 0 0 (PM (some (.int (nI 0))) h n (nI 1) rc mc tch frs) (PX0) := by
  refine Ctr.of hst pn_X5_advise (Nat.le_of_ble_eq_true rfl) (fun X hX hr hE => ?_)
  have hX : FX l K X cX5_advise RX5 5 126 0 0 := hX
  show GW X 0 [some (.ref 40), some (.int a), none, none, none, none] [] h n 0 0
  refine g_aload_n hX dX5_advise_0 rfl rfl ?_
  refine g_iconst (v := (nI 0)) hX dX5_advise_1 (by decide) ?_
  refine g_putI hX dX5_advise_2 fl_X5_52 (m0) (Nat.le_of_ble_eq_true rfl) ?_
  show GW X 5 [some (.ref 40), some (.int a), none, none, none, none] [] (hs h 40 (oB 5 [.int (nI 0), .int (nI rc), .ref 41, .ref 42, .ref 43, .int (nI mc), .ref 44, .ref 45, .int tch, .int frs, .ref 46, .ref 47, .int len, .ref 48, .ref 49, .ref 50, .ref 51, .ref 56])) n 0 0
  refine g_iload_n hX dX5_advise_5 rfl rfl ?_
  refine g_iconst (v := (nI 0)) hX dX5_advise_6 (by decide) ?_
  refine g_iconst (v := (nI 2)) hX dX5_advise_7 (by decide) ?_
  refine g_callS (As := [.int a, .int (nI 0), .int (nI 2)]) hX dX5_advise_8 cb_X5_isIn ml_X5_59 st_X5_isIn rfl rfl (kX5_isIn_x hst (hz.imp id (gn_up (by omega)))) (Nat.le_of_ble_eq_true rfl) (Nat.le_of_ble_eq_true rfl) (by omega) (by omega) (Nat.le_of_ble_eq_true rfl) GX.no (pq ?_)
  show GW X 11 [some (.ref 40), some (.int a), none, none, none, none] [.int (nI 0)] (hs h 40 (oB 5 [.int (nI 0), .int (nI rc), .ref 41, .ref 42, .ref 43, .int (nI mc), .ref 44, .ref 45, .int tch, .int frs, .ref 46, .ref 47, .int len, .ref 48, .ref 49, .ref 50, .ref 51, .ref 56])) n 0 0
  refine g_if_ne (tgt := 20) hX dX5_advise_11 (by decide) (fun c => absurd c (by decide)) (fun _ => ?_)
  refine g_aload_n hX dX5_advise_14 rfl rfl ?_
  refine g_iconst (v := (nI 1)) hX dX5_advise_15 (by decide) ?_
  refine g_callV (As := [.int (nI 1)]) hX dX5_advise_16 cb_X5_no ml_X5_84 im_X5_no se_X5_no rfl rfl (hs_eq _ _ _) ⟨_, rfl, rfl⟩ (kX5_no hst (hs_eq _ _ _) ) (Nat.le_of_ble_eq_true rfl) (Nat.le_of_ble_eq_true rfl) (by omega) (by omega) (Nat.le_of_ble_eq_true rfl) GX.no (pq ?_)
  show GW X 19 [some (.ref 40), some (.int a), none, none, none, none] [.int (nI 0)] (hs (hs h 40 (oB 5 [.int (nI 0), .int (nI rc), .ref 41, .ref 42, .ref 43, .int (nI mc), .ref 44, .ref 45, .int tch, .int frs, .ref 46, .ref 47, .int len, .ref 48, .ref 49, .ref 50, .ref 51, .ref 56])) 40 (oB 5 [.int (nI 1), .int (nI rc), .ref 41, .ref 42, .ref 43, .int (nI mc), .ref 44, .ref 45, .int tch, .int frs, .ref 46, .ref 47, .int len, .ref 48, .ref 49, .ref 50, .ref 51, .ref 56])) n 0 0
  refine g_cg rfl hs_hs ?_
  refine g_ireturn hX hr dX5_advise_19 (Nat.le_refl _) (Nat.le_refl _)  ?_
  exact ⟨rfl, rfl, fun j hj => (hs_ne (by omega)).trans (rfl), ⟨_, _, _, _, _, _, _, _, _, _, _, (hs_eq _ _ _), ((hs_ne (by omega)).trans (mco)), ((hs_ne (by omega)).trans (mdg)), ((hs_ne (by omega)).trans (mrw)), ((hs_ne (by omega)).trans (mgo)), ((hs_ne (by omega)).trans (mwe)), ((hs_ne (by omega)).trans (a0)), ((hs_ne (by omega)).trans (avt)), ((hs_ne (by omega)).trans (ati)), ((hs_ne (by omega)).trans (afa)), ((hs_ne (by omega)).trans (ast))⟩⟩
set_option maxRecDepth 20000 in
theorem kX5_advise {l : Launch} {K : gw_K} (hst : l.stackTraces = false) {n : Nat} {h : gw_H} {rc mc : Nat} {thr tch frs len dy ady : Int32} {mn : Nat → Nat} {wd sk ws cs co dg rw_ go we vt ti fa st avt ati afa ast : Nat → Int32} {b : Nat} (m0 : h 40 = (oB 5 [.int thr, .int (nI rc), .ref 41, .ref 42, .ref 43, .int (nI mc), .ref 44, .ref 45, .int tch, .int frs, .ref 46, .ref 47, .int len, .ref 48, .ref 49, .ref 50, .ref 51, .ref 56])) (mwd : h 41 = (aI 20 wd)) (msk : h 42 = (aI 20 sk)) (mws : h 43 = (aI 18 ws)) (mmn : h 44 = (aI 5 (fun k => nI (mn k)))) (mcs : h 45 = (aI 60 cs)) (mco : h 46 = (aI 201 co)) (mdg : h 47 = (aI 201 dg)) (mrw : h 48 = (aI 6 rw_)) (mgo : h 49 = (aI 6 go)) (mwe : h 50 = (aI 6 we)) (s0 : h 51 = (oB 4 [.int dy, .ref (51 + 1), .ref (51 + 2), .ref (51 + 3), .ref (51 + 4), .ref 40])) (svt : h (51 + 1) = (aI 20 vt)) (sti : h (51 + 2) = (aI 20 ti)) (sfa : h (51 + 3) = (aI 20 fa)) (sst : h (51 + 4) = (aI 20 st)) (a0 : h 56 = (oB 4 [.int ady, .ref (56 + 1), .ref (56 + 2), .ref (56 + 3), .ref (56 + 4), .ref 40])) (avt : h (56 + 1) = (aI 20 avt)) (ati : h (56 + 2) = (aI 20 ati)) (afa : h (56 + 3) = (aI 20 afa)) (ast : h (56 + 4) = (aI 20 ast)) (hn62 : 62 ≤ n) (hm5 : mc ≤ 5) (hrc : rc ≤ 20) (hsi : seatI st rc) (hb3 : b < 3) (hmc : ∀ m, m < mc → mn m ≤ 12 ∧ codI (chM cs mn m) (crM (chM cs mn m) (mn m) * mn m) = nI 1865)  : Ctr l K mX5_advise [.ref 40, .int (nI b)] h n 0 0 (PM (some (.int (itr (madP vt ti fa st sk cs mn rc b) mc (-1, nI 0)).1)) h n (nI 0) rc mc tch frs) (PX0) := by
  refine Ctr.of hst pn_X5_advise (Nat.le_of_ble_eq_true rfl) (fun X hX hr hE => ?_)
  have hX : FX l K X cX5_advise RX5 5 126 0 0 := hX
  show GW X 0 [some (.ref 40), some (.int (nI b)), none, none, none, none] [] h n 0 0
  refine g_aload_n hX dX5_advise_0 rfl rfl ?_
  refine g_iconst (v := (nI 0)) hX dX5_advise_1 (by decide) ?_
  refine g_putI hX dX5_advise_2 fl_X5_52 (m0) (Nat.le_of_ble_eq_true rfl) ?_
  show GW X 5 [some (.ref 40), some (.int (nI b)), none, none, none, none] [] (hs h 40 (oB 5 [.int (nI 0), .int (nI rc), .ref 41, .ref 42, .ref 43, .int (nI mc), .ref 44, .ref 45, .int tch, .int frs, .ref 46, .ref 47, .int len, .ref 48, .ref 49, .ref 50, .ref 51, .ref 56])) n 0 0
  refine g_iload_n hX dX5_advise_5 rfl rfl ?_
  refine g_iconst (v := (nI 0)) hX dX5_advise_6 (by decide) ?_
  refine g_iconst (v := (nI 2)) hX dX5_advise_7 (by decide) ?_
  refine g_callS (As := [.int (nI b), .int (nI 0), .int (nI 2)]) hX dX5_advise_8 cb_X5_isIn ml_X5_59 st_X5_isIn rfl rfl (kX5_isIn hst (gn_okW (by omega) (by omega) (by omega))) (Nat.le_of_ble_eq_true rfl) (Nat.le_of_ble_eq_true rfl) (by omega) (by omega) (Nat.le_of_ble_eq_true rfl) GX.no (pq ?_)
  show GW X 11 [some (.ref 40), some (.int (nI b)), none, none, none, none] [.int (nI 1)] (hs h 40 (oB 5 [.int (nI 0), .int (nI rc), .ref 41, .ref 42, .ref 43, .int (nI mc), .ref 44, .ref 45, .int tch, .int frs, .ref 46, .ref 47, .int len, .ref 48, .ref 49, .ref 50, .ref 51, .ref 56])) n 0 0
  refine g_if_ne (tgt := 20) hX dX5_advise_11 (by decide) (fun _ => ?_) (fun c => absurd c (by decide))
  refine g_iconst (v := (-1)) hX dX5_advise_20 (by decide) ?_
  refine g_istore_n (i := 2) hX dX5_advise_21 rfl (Nat.le_of_ble_eq_true rfl) rfl ?_
  refine g_iconst (v := (nI 0)) hX dX5_advise_22 (by decide) ?_
  refine g_istore_n (i := 3) hX dX5_advise_23 rfl (Nat.le_of_ble_eq_true rfl) rfl ?_
  refine g_iconst (v := (nI 0)) hX dX5_advise_24 (by decide) ?_
  refine g_istore hX dX5_advise_25 (Nat.le_of_ble_eq_true rfl) rfl ?_
  refine (show ∀ h2, SCM h h2 (nI 0) rc mc tch frs → GW X 27 [some (.ref 40), some (.int (nI b)), some (.int ((-1, nI 0).1)), some (.int ((-1, nI 0).2)), some (.int (nI 0)), none] [] h2 n 0 0 from g_for (P := fun (i : Nat) (s : Int32 × Int32) => ∀ h2, SCM h h2 (nI 0) rc mc tch frs → GW X 27 [some (.ref 40), some (.int (nI b)), some (.int s.1), some (.int s.2), some (.int (nI i)), none] [] h2 n 0 0) (step := fun i s => madP vt ti fa st sk cs mn rc b i s) mc (-1, nI 0) ?_ ?_) (hs h 40 (oB 5 [.int (nI 0), .int (nI rc), .ref 41, .ref 42, .ref 43, .int (nI mc), .ref 44, .ref 45, .int tch, .int frs, .ref 46, .ref 47, .int len, .ref 48, .ref 49, .ref 50, .ref 51, .ref 56])) ⟨fun j hj => (hs_ne (by omega)).trans (rfl), ⟨_, _, _, _, _, _, _, _, _, _, _, (hs_eq _ _ _), ((hs_ne (by omega)).trans (mco)), ((hs_ne (by omega)).trans (mdg)), ((hs_ne (by omega)).trans (mrw)), ((hs_ne (by omega)).trans (mgo)), ((hs_ne (by omega)).trans (mwe)), ((hs_ne (by omega)).trans (a0)), ((hs_ne (by omega)).trans (avt)), ((hs_ne (by omega)).trans (ati)), ((hs_ne (by omega)).trans (afa)), ((hs_ne (by omega)).trans (ast))⟩⟩
  · intro i1 ⟨xs2, ys2⟩ hi1 es2 ihi1 h3 hk4
    obtain ⟨hk4K, len3, ady3, co3, dg3, rw_3, go3, we3, avt3, ati3, afa3, ast3, q40_3, q46_3, q47_3, q48_3, q49_3, q50_3, q56_3, q57_3, q58_3, q59_3, q60_3⟩ := hk4
    show GW X 27 [some (.ref 40), some (.int (nI b)), some (.int xs2), some (.int ys2), some (.int (nI i1)), none] [] h3 n 0 0
    have ihi1 : ∀ h9, SCM h h9 (nI 0) rc mc tch frs → GW X 27 [some (.ref 40), some (.int (nI b)), some (.int ((madP vt ti fa st sk cs mn rc b i1 (xs2, ys2)).1)), some (.int ((madP vt ti fa st sk cs mn rc b i1 (xs2, ys2)).2)), some (.int (nI (i1 + 1))), none] [] h9 n 0 0 := ihi1
    obtain ⟨hmn_i1, hcr_i1⟩ := hmc i1 hi1
    refine g_iload hX dX5_advise_27 rfl ?_
    refine g_aload_n hX dX5_advise_29 rfl rfl ?_
    refine g_getf hX dX5_advise_30 fl_X5_63 (q40_3) rfl ?_
    refine g_icmp_geN (tgt := 72) hX dX5_advise_33 (by decide) (by omega) (fun c5 => absurd c5 (by omega)) (fun c5 => ?_)
    refine g_aload_n hX dX5_advise_36 rfl rfl ?_
    refine g_iload_n hX dX5_advise_37 rfl rfl ?_
    refine g_iload hX dX5_advise_38 rfl ?_
    refine g_aload_n hX dX5_advise_40 rfl rfl ?_
    refine g_iload hX dX5_advise_41 rfl ?_
    have hcm_hk7 := crM_le (chM cs mn i1) (mn i1)
    have hcn_hk7 := Nat.mul_le_mul hcm_hk7.2 (show mn i1 ≤ 12 by omega)
    refine g_callV (As := [.int (nI i1)]) hX dX5_advise_43 cb_X5_course ml_X5_141 im_X5_course se_X5_course rfl rfl (q40_3) ⟨_, rfl, rfl⟩ (kX5_course hst (q40_3) ((hk4K _ (by decide)).trans (mmn)) ((hk4K _ (by decide)).trans (mcs)) (q46_3) (q47_3) (q48_3) (q49_3) (q50_3) (by omega) (by omega) (hcr_i1)) (Nat.le_of_ble_eq_true rfl) (Nat.le_of_ble_eq_true rfl) (by omega) (by omega) (Nat.le_of_ble_eq_true rfl) GX.no ?_
    rintro _ h6 _ - ⟨rfl, rfl, hk7⟩
    show GW X 46 [some (.ref 40), some (.int (nI b)), some (.int xs2), some (.int ys2), some (.int (nI i1)), none] [.int (nI (crM (chM cs mn i1) (mn i1))), .int (nI i1), .int (nI b), .ref 40] h6 n 0 0
    obtain ⟨hk7K, co6, dg6, rw_6, go6, we6, q46_6, q47_6, q48_6, q49_6, q50_6, hco6, hdg6⟩ := id hk7
    refine g_callV (As := [.int (nI b), .int (nI i1), .int (nI (crM (chM cs mn i1) (mn i1)))]) hX dX5_advise_46 cb_X5_wouldBring ml_X5_168 im_X5_wouldBring se_X5_wouldBring rfl rfl ((hk7K _ (by omega)).trans (hs_eq _ _ _)) ⟨_, rfl, rfl⟩ (kX5_wouldBring (b := b) (m := i1) (L := crM (chM cs mn i1) (mn i1)) hst ((hk7K _ (by omega)).trans (hs_eq _ _ _)) ((hk7K _ (by omega)).trans ((hs_ne (by omega)).trans ((hk4K _ (by decide)).trans (mwd)))) ((hk7K _ (by omega)).trans ((hs_ne (by omega)).trans ((hk4K _ (by decide)).trans (msk)))) ((hk7K _ (by omega)).trans ((hs_ne (by omega)).trans ((hk4K _ (by decide)).trans (mws)))) ((hk7K _ (by omega)).trans ((hs_ne (by omega)).trans ((hk4K _ (by decide)).trans (mmn)))) ((hk7K _ (by omega)).trans ((hs_ne (by omega)).trans ((hk4K _ (by decide)).trans (mcs)))) (q46_6) (q47_6) (q48_6) (q49_6) (q50_6) ((hk7K _ (by omega)).trans ((hs_ne (by omega)).trans ((hk4K _ (by decide)).trans (s0)))) ((hk7K _ (by omega)).trans ((hs_ne (by omega)).trans ((hk4K _ (by decide)).trans (svt)))) ((hk7K _ (by omega)).trans ((hs_ne (by omega)).trans ((hk4K _ (by decide)).trans (sti)))) ((hk7K _ (by omega)).trans ((hs_ne (by omega)).trans ((hk4K _ (by decide)).trans (sfa)))) ((hk7K _ (by omega)).trans ((hs_ne (by omega)).trans ((hk4K _ (by decide)).trans (sst)))) ((hk7K _ (by omega)).trans ((hs_ne (by omega)).trans (q56_3))) ((hk7K _ (by omega)).trans ((hs_ne (by omega)).trans (q57_3))) ((hk7K _ (by omega)).trans ((hs_ne (by omega)).trans (q58_3))) ((hk7K _ (by omega)).trans ((hs_ne (by omega)).trans (q59_3))) ((hk7K _ (by omega)).trans ((hs_ne (by omega)).trans (q60_3))) (by omega) (by omega) (by omega) hsi (by omega) (by omega) hmn_i1 (by omega)) (Nat.le_of_ble_eq_true rfl) (Nat.le_of_ble_eq_true rfl) (by omega) (by omega) (Nat.le_of_ble_eq_true rfl) GX.no ?_
    rintro _ h8 _ - ⟨rfl, rfl, hk9⟩
    show GW X 49 [some (.ref 40), some (.int (nI b)), some (.int xs2), some (.int ys2), some (.int (nI i1)), none] [.int (mbrI vt ti fa st sk (chM cs mn i1) rc b (mn i1) (crM (chM cs mn i1) (mn i1)))] h8 n 0 0
    obtain ⟨hk9K, len8, ady8, co8, dg8, rw_8, go8, we8, avt8, ati8, afa8, ast8, q40_8, q46_8, q47_8, q48_8, q49_8, q50_8, q56_8, q57_8, q58_8, q59_8, q60_8⟩ := hk9
    refine g_istore hX dX5_advise_49 (Nat.le_of_ble_eq_true rfl) rfl ?_
    refine g_iload hX dX5_advise_51 rfl ?_
    refine g_iload_n hX dX5_advise_53 rfl rfl ?_
    refine g_icmp_gt (tgt := 60) hX dX5_advise_54 (by decide) (fun c10 => ?_) (fun c10 => ?_)
    · refine g_iload hX dX5_advise_60 rfl ?_
      refine g_istore_n (i := 3) hX dX5_advise_62 rfl (Nat.le_of_ble_eq_true rfl) rfl ?_
      refine g_iload hX dX5_advise_63 rfl ?_
      refine g_istore_n (i := 2) hX dX5_advise_65 rfl (Nat.le_of_ble_eq_true rfl) rfl ?_
      refine g_iinc (v := (nI (i1 + 1))) hX dX5_advise_66 rfl rfl (gn_inc _ _) ?_
      refine g_goto (tgt := 27) hX dX5_advise_69 (by decide) ?_
      refine g_kill 5 ?_
      exact g_cv (ihi1 _ ⟨fun j hj => (hk9K j hj).trans ((hk7K j (by omega)).trans ((hs_ne (by omega)).trans ((hk4K j hj).trans (rfl)))), ⟨_, _, _, _, _, _, _, _, _, _, _, q40_8, q46_8, q47_8, q48_8, q49_8, q50_8, q56_8, q57_8, q58_8, q59_8, q60_8⟩⟩) (by rw [madP, if_pos c10]; rfl) rfl
    · refine g_goto (tgt := 66) hX dX5_advise_57 (by decide) ?_
      refine g_iinc (v := (nI (i1 + 1))) hX dX5_advise_66 rfl rfl (gn_inc _ _) ?_
      refine g_goto (tgt := 27) hX dX5_advise_69 (by decide) ?_
      refine g_kill 5 ?_
      exact g_cv (ihi1 _ ⟨fun j hj => (hk9K j hj).trans ((hk7K j (by omega)).trans ((hs_ne (by omega)).trans ((hk4K j hj).trans (rfl)))), ⟨_, _, _, _, _, _, _, _, _, _, _, q40_8, q46_8, q47_8, q48_8, q49_8, q50_8, q56_8, q57_8, q58_8, q59_8, q60_8⟩⟩) (by rw [madP, if_neg c10]; rfl) rfl
  · intro h11 hk12
    obtain ⟨hk12K, len11, ady11, co11, dg11, rw_11, go11, we11, avt11, ati11, afa11, ast11, q40_11, q46_11, q47_11, q48_11, q49_11, q50_11, q56_11, q57_11, q58_11, q59_11, q60_11⟩ := hk12
    show GW X 27 [some (.ref 40), some (.int (nI b)), some (.int ((itr (fun i s => madP vt ti fa st sk cs mn rc b i s) mc (-1, nI 0)).1)), some (.int ((itr (fun i s => madP vt ti fa st sk cs mn rc b i s) mc (-1, nI 0)).2)), some (.int (nI mc)), none] [] h11 n 0 0
    refine g_iload hX dX5_advise_27 rfl ?_
    refine g_aload_n hX dX5_advise_29 rfl rfl ?_
    refine g_getf hX dX5_advise_30 fl_X5_63 (q40_11) rfl ?_
    refine g_icmp_geN (tgt := 72) hX dX5_advise_33 (by decide) (by omega) (fun c13 => ?_) (fun c13 => absurd c13 (by omega))
    refine g_iload_n hX dX5_advise_72 rfl rfl ?_
    refine g_ireturn hX hr dX5_advise_73 (Nat.le_refl _) (Nat.le_refl _)  ?_
    exact ⟨rfl, rfl, fun j hj => (hk12K j hj).trans (rfl), ⟨_, _, _, _, _, _, _, _, _, _, _, q40_11, q46_11, q47_11, q48_11, q49_11, q50_11, q56_11, q57_11, q58_11, q59_11, q60_11⟩⟩
set_option maxRecDepth 20000 in
set_option maxHeartbeats 3000000 in
theorem dseg1 {l : Launch} {K : gw_K} (hst : l.stackTraces = false) {n : Nat} {h : gw_H} {rc mc : Nat} {thr tch frs len dy ady : Int32} {mn : Nat → Nat} {wd sk ws cs co dg rw_ go we vt ti fa st avt ati afa ast : Nat → Int32}  {d0 : Int64} {X : gw_X} (hX : FX l K X cX5_digest RX5 5 127 (9 + 8 * rc + 6 * mc) (81 + 64 * rc + 36 * mc))  (m0 : h 40 = (oB 5 [.int thr, .int (nI rc), .ref 41, .ref 42, .ref 43, .int (nI mc), .ref 44, .ref 45, .int tch, .int frs, .ref 46, .ref 47, .int len, .ref 48, .ref 49, .ref 50, .ref 51, .ref 56])) (mwd : h 41 = (aI 20 wd)) (msk : h 42 = (aI 20 sk)) (mws : h 43 = (aI 18 ws)) (mmn : h 44 = (aI 5 (fun k => nI (mn k)))) (mcs : h 45 = (aI 60 cs)) (mco : h 46 = (aI 201 co)) (mdg : h 47 = (aI 201 dg)) (mrw : h 48 = (aI 6 rw_)) (mgo : h 49 = (aI 6 go)) (mwe : h 50 = (aI 6 we)) (s0 : h 51 = (oB 4 [.int dy, .ref (51 + 1), .ref (51 + 2), .ref (51 + 3), .ref (51 + 4), .ref 40])) (svt : h (51 + 1) = (aI 20 vt)) (sti : h (51 + 2) = (aI 20 ti)) (sfa : h (51 + 3) = (aI 20 fa)) (sst : h (51 + 4) = (aI 20 st)) (a0 : h 56 = (oB 4 [.int ady, .ref (56 + 1), .ref (56 + 2), .ref (56 + 3), .ref (56 + 4), .ref 40])) (avt : h (56 + 1) = (aI 20 avt)) (ati : h (56 + 2) = (aI 20 ati)) (afa : h (56 + 3) = (aI 20 afa)) (ast : h (56 + 4) = (aI 20 ast)) (hn62 : 62 ≤ n) (hm5 : mc ≤ 5) (hrc : rc ≤ 20) (hsi : seatI st rc) (hvp : ∀ r, r < rc → 0 ≤ vt r) (hmc : ∀ m, m < mc → mn m ≤ 12 ∧ codI (chM cs mn m) (crM (chM cs mn m) (mn m) * mn m) = nI 1865) : ∀ h1, SCM h h1 (nI 0) rc mc tch frs → (∀ h2, SCM h h2 (nI 0) rc mc tch frs → GW X 36 [some (.ref 40), some (.long (mdgC vt fa st rc mc dy tch frs d0)), none, none, none] [] h2 (n + 9) 9 81) → GW X 9 [some (.ref 40), some (.long d0), none, none, none] [] h1 n 0 0 := by
  rintro h1 hk1 kk
  have hso : ∀ r, r < rc → seatOK (st r) := fun r hr => (hsi r hr).1
  obtain ⟨hk1K, len1, ady1, co1, dg1, rw_1, go1, we1, avt1, ati1, afa1, ast1, q40_1, q46_1, q47_1, q48_1, q49_1, q50_1, q56_1, q57_1, q58_1, q59_1, q60_1⟩ := hk1
  refine g_iconst (v := (nI 0)) hX dX5_digest_9 (by decide) ?_
  refine g_istore_n (i := 3) hX dX5_digest_10 rfl (Nat.le_of_ble_eq_true rfl) rfl ?_
  refine g_cn (n' := (n + (0))) (kc' := (0)) (ks' := (9 * 0)) (by omega) (by omega) (by omega) ?_
  refine (show ∀ h2, SCM h h2 (nI 0) rc mc tch frs → GW X 11 [some (.ref 40), some (.long d0), none, some (.int (nI 0)), none] [] h2 (n + (0)) (0) (9 * 0) from g_for (P := fun (i : Nat) (s : Int64) => ∀ h2, SCM h h2 (nI 0) rc mc tch frs → GW X 11 [some (.ref 40), some (.long s), none, some (.int (nI i)), none] [] h2 (n + (i)) (i) (9 * i)) (step := fun i s => s * 31 + (mcI vt fa st rc mc dy tch frs i).toInt64) 9 d0 ?_ ?_) h1 ⟨fun j hj => (hk1K j hj).trans (rfl), ⟨_, _, _, _, _, _, _, _, _, _, _, q40_1, q46_1, q47_1, q48_1, q49_1, q50_1, q56_1, q57_1, q58_1, q59_1, q60_1⟩⟩
  · intro i1 s2 hi1 es2 ihi1 h3 hk4
    clear q40_1 q46_1 q47_1 q48_1 q49_1 q50_1 q56_1 q57_1 q58_1 q59_1 q60_1 len1 ady1 co1 dg1 rw_1 go1 we1 avt1 ati1 afa1 ast1 hk1K
    obtain ⟨hk4K, len3, ady3, co3, dg3, rw_3, go3, we3, avt3, ati3, afa3, ast3, q40_3, q46_3, q47_3, q48_3, q49_3, q50_3, q56_3, q57_3, q58_3, q59_3, q60_3⟩ := hk4
    show GW X 11 [some (.ref 40), some (.long s2), none, some (.int (nI i1)), none] [] h3 (n + (i1)) (i1) (9 * i1)
    have ihi1 : ∀ h9, SCM h h9 (nI 0) rc mc tch frs → GW X 11 [some (.ref 40), some (.long (s2 * 31 + (mcI vt fa st rc mc dy tch frs i1).toInt64)), none, some (.int (nI (i1 + 1))), none] [] h9 (n + ((i1 + 1))) ((i1 + 1)) (9 * (i1 + 1)) := ihi1
    refine g_iload_n hX dX5_digest_11 rfl rfl ?_
    refine g_bipush (v := (nI 8)) hX dX5_digest_12 (by decide) ?_
    refine g_icmp_gtN (tgt := 36) hX dX5_digest_14 (by decide) (by omega) (fun c5 => absurd c5 (by omega)) (fun c5 => ?_)
    refine g_lload_n hX dX5_digest_17 rfl rfl ?_
    refine g_ldc2 hX dX5_digest_18 cl_X5_188 ?_
    refine g_lmul hX dX5_digest_21 ?_
    refine g_aload_n hX dX5_digest_22 rfl rfl ?_
    refine g_iload_n hX dX5_digest_23 rfl rfl ?_
    refine g_callV (As := [.int (nI i1)]) hX dX5_digest_24 cb_X5_counted ml_X5_174 im_X5_counted se_X5_counted rfl rfl (q40_3) ⟨_, rfl, rfl⟩ (kX5_counted hst (q40_3) ((hk4K _ (by decide)).trans (s0)) ((hk4K _ (by decide)).trans (svt)) ((hk4K _ (by decide)).trans (sti)) ((hk4K _ (by decide)).trans (sfa)) ((hk4K _ (by decide)).trans (sst)) (by omega) (by omega) (by omega) hso) (Nat.le_of_ble_eq_true rfl) (Nat.le_of_ble_eq_true rfl) (by omega) (by omega) (Nat.le_of_ble_eq_true rfl) GX.no ?_
    rintro _ h6 _ - ⟨rfl, rfl, hk7⟩
    show GW X 27 [some (.ref 40), some (.long s2), none, some (.int (nI i1)), none] [.int (mcI vt fa st rc mc dy tch frs i1), .long (s2 * 31)] h6 ((n + (i1)) + 1) ((i1) + 1) ((9 * i1) + 9)
    refine g_i2l hX dX5_digest_27 ?_
    refine g_ladd hX dX5_digest_28 ?_
    refine g_lstore_n (i := 1) hX dX5_digest_29 rfl (Nat.le_of_ble_eq_true rfl) rfl ?_
    refine g_iinc (v := (nI (i1 + 1))) hX dX5_digest_30 rfl rfl (gn_inc _ _) ?_
    refine g_goto (tgt := 11) hX dX5_digest_33 (by decide) ?_
    refine g_cn (n' := (n + ((i1 + 1)))) (kc' := ((i1 + 1))) (ks' := (9 * (i1 + 1))) (by omega) (by omega) (by omega) ?_
    exact g_cv (ihi1 _ ⟨fun j hj => (hk7 j (by omega)).trans ((hk4K j hj).trans (rfl)), ⟨_, _, _, _, _, _, _, _, _, _, _, ((hk7 _ (by omega)).trans (q40_3)), ((hk7 _ (by omega)).trans (q46_3)), ((hk7 _ (by omega)).trans (q47_3)), ((hk7 _ (by omega)).trans (q48_3)), ((hk7 _ (by omega)).trans (q49_3)), ((hk7 _ (by omega)).trans (q50_3)), ((hk7 _ (by omega)).trans (q56_3)), ((hk7 _ (by omega)).trans (q57_3)), ((hk7 _ (by omega)).trans (q58_3)), ((hk7 _ (by omega)).trans (q59_3)), ((hk7 _ (by omega)).trans (q60_3))⟩⟩) rfl rfl
  · intro h8 hk9
    clear q40_1 q46_1 q47_1 q48_1 q49_1 q50_1 q56_1 q57_1 q58_1 q59_1 q60_1 len1 ady1 co1 dg1 rw_1 go1 we1 avt1 ati1 afa1 ast1 hk1K
    obtain ⟨hk9K, len8, ady8, co8, dg8, rw_8, go8, we8, avt8, ati8, afa8, ast8, q40_8, q46_8, q47_8, q48_8, q49_8, q50_8, q56_8, q57_8, q58_8, q59_8, q60_8⟩ := hk9
    show GW X 11 [some (.ref 40), some (.long (itr (fun i s => s * 31 + (mcI vt fa st rc mc dy tch frs i).toInt64) 9 d0)), none, some (.int (nI 9)), none] [] h8 (n + (9)) (9) (9 * 9)
    refine g_iload_n hX dX5_digest_11 rfl rfl ?_
    refine g_bipush (v := (nI 8)) hX dX5_digest_12 (by decide) ?_
    refine g_icmp_gt (tgt := 36) hX dX5_digest_14 (by decide) (fun _ => ?_) (fun c => absurd (by decide) c)
    refine g_kill 3 ?_
    refine g_cn (n' := (n + 9)) (kc' := 9) (ks' := 81) (by omega) (by omega) (by omega) ?_
    exact kk _ ⟨fun j hj => (hk9K j hj).trans (rfl), ⟨_, _, _, _, _, _, _, _, _, _, _, q40_8, q46_8, q47_8, q48_8, q49_8, q50_8, q56_8, q57_8, q58_8, q59_8, q60_8⟩⟩
set_option maxRecDepth 20000 in
set_option maxHeartbeats 3000000 in
theorem dseg2 {l : Launch} {K : gw_K} (hst : l.stackTraces = false) {n : Nat} {h : gw_H} {rc mc : Nat} {thr tch frs len dy ady : Int32} {mn : Nat → Nat} {wd sk ws cs co dg rw_ go we vt ti fa st avt ati afa ast : Nat → Int32}  {d0 : Int64} {X : gw_X} (hX : FX l K X cX5_digest RX5 5 127 (9 + 8 * rc + 6 * mc) (81 + 64 * rc + 36 * mc))  (m0 : h 40 = (oB 5 [.int thr, .int (nI rc), .ref 41, .ref 42, .ref 43, .int (nI mc), .ref 44, .ref 45, .int tch, .int frs, .ref 46, .ref 47, .int len, .ref 48, .ref 49, .ref 50, .ref 51, .ref 56])) (mwd : h 41 = (aI 20 wd)) (msk : h 42 = (aI 20 sk)) (mws : h 43 = (aI 18 ws)) (mmn : h 44 = (aI 5 (fun k => nI (mn k)))) (mcs : h 45 = (aI 60 cs)) (mco : h 46 = (aI 201 co)) (mdg : h 47 = (aI 201 dg)) (mrw : h 48 = (aI 6 rw_)) (mgo : h 49 = (aI 6 go)) (mwe : h 50 = (aI 6 we)) (s0 : h 51 = (oB 4 [.int dy, .ref (51 + 1), .ref (51 + 2), .ref (51 + 3), .ref (51 + 4), .ref 40])) (svt : h (51 + 1) = (aI 20 vt)) (sti : h (51 + 2) = (aI 20 ti)) (sfa : h (51 + 3) = (aI 20 fa)) (sst : h (51 + 4) = (aI 20 st)) (a0 : h 56 = (oB 4 [.int ady, .ref (56 + 1), .ref (56 + 2), .ref (56 + 3), .ref (56 + 4), .ref 40])) (avt : h (56 + 1) = (aI 20 avt)) (ati : h (56 + 2) = (aI 20 ati)) (afa : h (56 + 3) = (aI 20 afa)) (ast : h (56 + 4) = (aI 20 ast)) (hn62 : 62 ≤ n) (hm5 : mc ≤ 5) (hrc : rc ≤ 20) (hsi : seatI st rc) (hvp : ∀ r, r < rc → 0 ≤ vt r) (hmc : ∀ m, m < mc → mn m ≤ 12 ∧ codI (chM cs mn m) (crM (chM cs mn m) (mn m) * mn m) = nI 1865) : ∀ h1, SCM h h1 (nI 0) rc mc tch frs → (∀ h2, SCM h h2 (nI 0) rc mc tch frs → GW X 87 [some (.ref 40), some (.long (digR wd sk vt ti fa st rc d0)), none, none, none] [] h2 (n + (9 + 8 * rc)) (9 + 8 * rc) (81 + 64 * rc)) → GW X 36 [some (.ref 40), some (.long d0), none, none, none] [] h1 (n + 9) 9 81 := by
  rintro h1 hk1 kk
  have hso : ∀ r, r < rc → seatOK (st r) := fun r hr => (hsi r hr).1
  obtain ⟨hk1K, len1, ady1, co1, dg1, rw_1, go1, we1, avt1, ati1, afa1, ast1, q40_1, q46_1, q47_1, q48_1, q49_1, q50_1, q56_1, q57_1, q58_1, q59_1, q60_1⟩ := hk1
  refine g_iconst (v := (nI 0)) hX dX5_digest_36 (by decide) ?_
  refine g_istore_n (i := 3) hX dX5_digest_37 rfl (Nat.le_of_ble_eq_true rfl) rfl ?_
  refine g_cn (n' := (n + (9 + 8 * 0))) (kc' := (9 + 8 * 0)) (ks' := (81 + 64 * 0)) (by omega) (by omega) (by omega) ?_
  refine (show ∀ h2, SCM h h2 (nI 0) rc mc tch frs → GW X 38 [some (.ref 40), some (.long d0), none, some (.int (nI 0)), none] [] h2 (n + (9 + 8 * 0)) (9 + 8 * 0) (81 + 64 * 0) from g_for (P := fun (i : Nat) (s : Int64) => ∀ h2, SCM h h2 (nI 0) rc mc tch frs → GW X 38 [some (.ref 40), some (.long s), none, some (.int (nI i)), none] [] h2 (n + (9 + 8 * i)) (9 + 8 * i) (81 + 64 * i)) (step := fun i s => itr (fun q d => d * 31 + (tellI wd sk vt ti fa st rc i q).toInt64) 8 s) rc d0 ?_ ?_) h1 ⟨fun j hj => (hk1K j hj).trans (rfl), ⟨_, _, _, _, _, _, _, _, _, _, _, q40_1, q46_1, q47_1, q48_1, q49_1, q50_1, q56_1, q57_1, q58_1, q59_1, q60_1⟩⟩
  · intro i1 s2 hi1 es2 ihi1 h3 hk4
    clear q40_1 q46_1 q47_1 q48_1 q49_1 q50_1 q56_1 q57_1 q58_1 q59_1 q60_1 len1 ady1 co1 dg1 rw_1 go1 we1 avt1 ati1 afa1 ast1 hk1K
    obtain ⟨hk4K, len3, ady3, co3, dg3, rw_3, go3, we3, avt3, ati3, afa3, ast3, q40_3, q46_3, q47_3, q48_3, q49_3, q50_3, q56_3, q57_3, q58_3, q59_3, q60_3⟩ := hk4
    show GW X 38 [some (.ref 40), some (.long s2), none, some (.int (nI i1)), none] [] h3 (n + (9 + 8 * i1)) (9 + 8 * i1) (81 + 64 * i1)
    have ihi1 : ∀ h9, SCM h h9 (nI 0) rc mc tch frs → GW X 38 [some (.ref 40), some (.long (itr (fun q d => d * 31 + (tellI wd sk vt ti fa st rc i1 q).toInt64) 8 s2)), none, some (.int (nI (i1 + 1))), none] [] h9 (n + (9 + 8 * (i1 + 1))) (9 + 8 * (i1 + 1)) (81 + 64 * (i1 + 1)) := ihi1
    refine g_iload_n hX dX5_digest_38 rfl rfl ?_
    refine g_aload_n hX dX5_digest_39 rfl rfl ?_
    refine g_getf hX dX5_digest_40 fl_X5_56 (q40_3) rfl ?_
    refine g_icmp_geN (tgt := 87) hX dX5_digest_43 (by decide) (by omega) (fun c5 => absurd c5 (by omega)) (fun c5 => ?_)
    refine g_iconst (v := (nI 0)) hX dX5_digest_46 (by decide) ?_
    refine g_istore hX dX5_digest_47 (Nat.le_of_ble_eq_true rfl) rfl ?_
    refine g_cn (n' := (n + (9 + 8 * i1 + 0))) (kc' := (9 + 8 * i1 + 0)) (ks' := (81 + 64 * i1 + 8 * 0)) (by omega) (by omega) (by omega) ?_
    refine (show ∀ h2, SCM h h2 (nI 0) rc mc tch frs → GW X 49 [some (.ref 40), some (.long s2), none, some (.int (nI i1)), some (.int (nI 0))] [] h2 (n + (9 + 8 * i1 + 0)) (9 + 8 * i1 + 0) (81 + 64 * i1 + 8 * 0) from g_for (P := fun (i : Nat) (s : Int64) => ∀ h2, SCM h h2 (nI 0) rc mc tch frs → GW X 49 [some (.ref 40), some (.long s), none, some (.int (nI i1)), some (.int (nI i))] [] h2 (n + (9 + 8 * i1 + i)) (9 + 8 * i1 + i) (81 + 64 * i1 + 8 * i)) (step := fun i s => s * 31 + (tellI wd sk vt ti fa st rc i1 i).toInt64) 8 s2 ?_ ?_) h3 ⟨fun j hj => (hk4K j hj).trans (rfl), ⟨_, _, _, _, _, _, _, _, _, _, _, q40_3, q46_3, q47_3, q48_3, q49_3, q50_3, q56_3, q57_3, q58_3, q59_3, q60_3⟩⟩
    · intro i6 s7 hi6 es7 ihi6 h8 hk9
      clear q40_3 q46_3 q47_3 q48_3 q49_3 q50_3 q56_3 q57_3 q58_3 q59_3 q60_3 len3 ady3 co3 dg3 rw_3 go3 we3 avt3 ati3 afa3 ast3 hk4K
      obtain ⟨hk9K, len8, ady8, co8, dg8, rw_8, go8, we8, avt8, ati8, afa8, ast8, q40_8, q46_8, q47_8, q48_8, q49_8, q50_8, q56_8, q57_8, q58_8, q59_8, q60_8⟩ := hk9
      show GW X 49 [some (.ref 40), some (.long s7), none, some (.int (nI i1)), some (.int (nI i6))] [] h8 (n + (9 + 8 * i1 + i6)) (9 + 8 * i1 + i6) (81 + 64 * i1 + 8 * i6)
      have ihi6 : ∀ h9, SCM h h9 (nI 0) rc mc tch frs → GW X 49 [some (.ref 40), some (.long (s7 * 31 + (tellI wd sk vt ti fa st rc i1 i6).toInt64)), none, some (.int (nI i1)), some (.int (nI (i6 + 1)))] [] h9 (n + (9 + 8 * i1 + (i6 + 1))) (9 + 8 * i1 + (i6 + 1)) (81 + 64 * i1 + 8 * (i6 + 1)) := ihi6
      refine g_iload hX dX5_digest_49 rfl ?_
      refine g_bipush (v := (nI 7)) hX dX5_digest_51 (by decide) ?_
      refine g_icmp_gtN (tgt := 81) hX dX5_digest_53 (by decide) (by omega) (fun c10 => absurd c10 (by omega)) (fun c10 => ?_)
      refine g_lload_n hX dX5_digest_56 rfl rfl ?_
      refine g_ldc2 hX dX5_digest_57 cl_X5_188 ?_
      refine g_lmul hX dX5_digest_60 ?_
      refine g_aload_n hX dX5_digest_61 rfl rfl ?_
      refine g_aload_n hX dX5_digest_62 rfl rfl ?_
      refine g_getf hX dX5_digest_63 fl_X5_45 (q40_8) rfl ?_
      refine g_iload_n hX dX5_digest_66 rfl rfl ?_
      refine g_iload hX dX5_digest_67 rfl ?_
      refine g_callV (As := [.ref 51, .int (nI i1), .int (nI i6)]) hX dX5_digest_69 cb_X5_ringerTold ml_X5_126 im_X5_ringerTold se_X5_ringerTold rfl rfl (q40_8) ⟨_, rfl, rfl⟩ (kX5_ringerTold hst (q40_8) ((hk9K _ (by decide)).trans (mwd)) ((hk9K _ (by decide)).trans (msk)) ((hk9K _ (by decide)).trans (s0)) ((hk9K _ (by decide)).trans (svt)) ((hk9K _ (by decide)).trans (sti)) ((hk9K _ (by decide)).trans (sfa)) ((hk9K _ (by decide)).trans (sst)) (by omega) (by omega) (by omega) (by omega) (by omega) hso) (Nat.le_of_ble_eq_true rfl) (Nat.le_of_ble_eq_true rfl) (by omega) (by omega) (Nat.le_of_ble_eq_true rfl) GX.no ?_
      rintro _ h11 _ - ⟨rfl, rfl, hk12⟩
      show GW X 72 [some (.ref 40), some (.long s7), none, some (.int (nI i1)), some (.int (nI i6))] [.int (tellI wd sk vt ti fa st rc i1 i6), .long (s7 * 31)] h11 ((n + (9 + 8 * i1 + i6)) + 1) ((9 + 8 * i1 + i6) + 1) ((81 + 64 * i1 + 8 * i6) + 8)
      refine g_i2l hX dX5_digest_72 ?_
      refine g_ladd hX dX5_digest_73 ?_
      refine g_lstore_n (i := 1) hX dX5_digest_74 rfl (Nat.le_of_ble_eq_true rfl) rfl ?_
      refine g_iinc (v := (nI (i6 + 1))) hX dX5_digest_75 rfl rfl (gn_inc _ _) ?_
      refine g_goto (tgt := 49) hX dX5_digest_78 (by decide) ?_
      refine g_cn (n' := (n + (9 + 8 * i1 + (i6 + 1)))) (kc' := (9 + 8 * i1 + (i6 + 1))) (ks' := (81 + 64 * i1 + 8 * (i6 + 1))) (by omega) (by omega) (by omega) ?_
      exact g_cv (ihi6 _ ⟨fun j hj => (hk12 j (by omega)).trans ((hk9K j hj).trans (rfl)), ⟨_, _, _, _, _, _, _, _, _, _, _, ((hk12 _ (by omega)).trans (q40_8)), ((hk12 _ (by omega)).trans (q46_8)), ((hk12 _ (by omega)).trans (q47_8)), ((hk12 _ (by omega)).trans (q48_8)), ((hk12 _ (by omega)).trans (q49_8)), ((hk12 _ (by omega)).trans (q50_8)), ((hk12 _ (by omega)).trans (q56_8)), ((hk12 _ (by omega)).trans (q57_8)), ((hk12 _ (by omega)).trans (q58_8)), ((hk12 _ (by omega)).trans (q59_8)), ((hk12 _ (by omega)).trans (q60_8))⟩⟩) rfl rfl
    · intro h13 hk14
      clear q40_3 q46_3 q47_3 q48_3 q49_3 q50_3 q56_3 q57_3 q58_3 q59_3 q60_3 len3 ady3 co3 dg3 rw_3 go3 we3 avt3 ati3 afa3 ast3 hk4K
      obtain ⟨hk14K, len13, ady13, co13, dg13, rw_13, go13, we13, avt13, ati13, afa13, ast13, q40_13, q46_13, q47_13, q48_13, q49_13, q50_13, q56_13, q57_13, q58_13, q59_13, q60_13⟩ := hk14
      show GW X 49 [some (.ref 40), some (.long (itr (fun i s => s * 31 + (tellI wd sk vt ti fa st rc i1 i).toInt64) 8 s2)), none, some (.int (nI i1)), some (.int (nI 8))] [] h13 (n + (9 + 8 * i1 + 8)) (9 + 8 * i1 + 8) (81 + 64 * i1 + 8 * 8)
      refine g_iload hX dX5_digest_49 rfl ?_
      refine g_bipush (v := (nI 7)) hX dX5_digest_51 (by decide) ?_
      refine g_icmp_gt (tgt := 81) hX dX5_digest_53 (by decide) (fun _ => ?_) (fun c => absurd (by decide) c)
      refine g_iinc (v := (nI (i1 + 1))) hX dX5_digest_81 rfl rfl (gn_inc _ _) ?_
      refine g_goto (tgt := 38) hX dX5_digest_84 (by decide) ?_
      refine g_kill 4 ?_
      refine g_cn (n' := (n + (9 + 8 * (i1 + 1)))) (kc' := (9 + 8 * (i1 + 1))) (ks' := (81 + 64 * (i1 + 1))) (by omega) (by omega) (by omega) ?_
      exact g_cv (ihi1 _ ⟨fun j hj => (hk14K j hj).trans (rfl), ⟨_, _, _, _, _, _, _, _, _, _, _, q40_13, q46_13, q47_13, q48_13, q49_13, q50_13, q56_13, q57_13, q58_13, q59_13, q60_13⟩⟩) rfl rfl
  · intro h15 hk16
    clear q40_1 q46_1 q47_1 q48_1 q49_1 q50_1 q56_1 q57_1 q58_1 q59_1 q60_1 len1 ady1 co1 dg1 rw_1 go1 we1 avt1 ati1 afa1 ast1 hk1K
    obtain ⟨hk16K, len15, ady15, co15, dg15, rw_15, go15, we15, avt15, ati15, afa15, ast15, q40_15, q46_15, q47_15, q48_15, q49_15, q50_15, q56_15, q57_15, q58_15, q59_15, q60_15⟩ := hk16
    show GW X 38 [some (.ref 40), some (.long (itr (fun i s => itr (fun q d => d * 31 + (tellI wd sk vt ti fa st rc i q).toInt64) 8 s) rc d0)), none, some (.int (nI rc)), none] [] h15 (n + (9 + 8 * rc)) (9 + 8 * rc) (81 + 64 * rc)
    refine g_iload_n hX dX5_digest_38 rfl rfl ?_
    refine g_aload_n hX dX5_digest_39 rfl rfl ?_
    refine g_getf hX dX5_digest_40 fl_X5_56 (q40_15) rfl ?_
    refine g_icmp_geN (tgt := 87) hX dX5_digest_43 (by decide) (by omega) (fun c17 => ?_) (fun c17 => absurd c17 (by omega))
    refine g_kill 3 ?_
    refine g_cn (n' := (n + (9 + 8 * rc))) (kc' := (9 + 8 * rc)) (ks' := (81 + 64 * rc)) (by omega) (by omega) (by omega) ?_
    exact kk _ ⟨fun j hj => (hk16K j hj).trans (rfl), ⟨_, _, _, _, _, _, _, _, _, _, _, q40_15, q46_15, q47_15, q48_15, q49_15, q50_15, q56_15, q57_15, q58_15, q59_15, q60_15⟩⟩
set_option maxRecDepth 20000 in
set_option maxHeartbeats 3000000 in
theorem dseg3 {l : Launch} {K : gw_K} (hst : l.stackTraces = false) {n : Nat} {h : gw_H} {rc mc : Nat} {thr tch frs len dy ady : Int32} {mn : Nat → Nat} {wd sk ws cs co dg rw_ go we vt ti fa st avt ati afa ast : Nat → Int32}  {d0 : Int64} {X : gw_X} (hX : FX l K X cX5_digest RX5 5 127 (9 + 8 * rc + 6 * mc) (81 + 64 * rc + 36 * mc))  (m0 : h 40 = (oB 5 [.int thr, .int (nI rc), .ref 41, .ref 42, .ref 43, .int (nI mc), .ref 44, .ref 45, .int tch, .int frs, .ref 46, .ref 47, .int len, .ref 48, .ref 49, .ref 50, .ref 51, .ref 56])) (mwd : h 41 = (aI 20 wd)) (msk : h 42 = (aI 20 sk)) (mws : h 43 = (aI 18 ws)) (mmn : h 44 = (aI 5 (fun k => nI (mn k)))) (mcs : h 45 = (aI 60 cs)) (mco : h 46 = (aI 201 co)) (mdg : h 47 = (aI 201 dg)) (mrw : h 48 = (aI 6 rw_)) (mgo : h 49 = (aI 6 go)) (mwe : h 50 = (aI 6 we)) (s0 : h 51 = (oB 4 [.int dy, .ref (51 + 1), .ref (51 + 2), .ref (51 + 3), .ref (51 + 4), .ref 40])) (svt : h (51 + 1) = (aI 20 vt)) (sti : h (51 + 2) = (aI 20 ti)) (sfa : h (51 + 3) = (aI 20 fa)) (sst : h (51 + 4) = (aI 20 st)) (a0 : h 56 = (oB 4 [.int ady, .ref (56 + 1), .ref (56 + 2), .ref (56 + 3), .ref (56 + 4), .ref 40])) (avt : h (56 + 1) = (aI 20 avt)) (ati : h (56 + 2) = (aI 20 ati)) (afa : h (56 + 3) = (aI 20 afa)) (ast : h (56 + 4) = (aI 20 ast)) (hn62 : 62 ≤ n) (hm5 : mc ≤ 5) (hrc : rc ≤ 20) (hsi : seatI st rc) (hvp : ∀ r, r < rc → 0 ≤ vt r) (hmc : ∀ m, m < mc → mn m ≤ 12 ∧ codI (chM cs mn m) (crM (chM cs mn m) (mn m) * mn m) = nI 1865) : ∀ h1, SCM h h1 (nI 0) rc mc tch frs → (∀ h2, SCM h h2 (nI 0) rc mc tch frs → GW X 138 [some (.ref 40), some (.long (mdgB wd vt ws st rc d0)), none, none, none] [] h2 (n + (9 + 8 * rc)) (9 + 8 * rc) (81 + 64 * rc)) → GW X 87 [some (.ref 40), some (.long d0), none, none, none] [] h1 (n + (9 + 8 * rc)) (9 + 8 * rc) (81 + 64 * rc) := by
  rintro h1 hk1 kk
  have hso : ∀ r, r < rc → seatOK (st r) := fun r hr => (hsi r hr).1
  obtain ⟨hk1K, len1, ady1, co1, dg1, rw_1, go1, we1, avt1, ati1, afa1, ast1, q40_1, q46_1, q47_1, q48_1, q49_1, q50_1, q56_1, q57_1, q58_1, q59_1, q60_1⟩ := hk1
  refine g_iconst (v := (nI 0)) hX dX5_digest_87 (by decide) ?_
  refine g_istore_n (i := 3) hX dX5_digest_88 rfl (Nat.le_of_ble_eq_true rfl) rfl ?_
  refine (show ∀ h2, SCM h h2 (nI 0) rc mc tch frs → GW X 89 [some (.ref 40), some (.long d0), none, some (.int (nI 0)), none] [] h2 (n + (9 + 8 * rc)) (9 + 8 * rc) (81 + 64 * rc) from g_for (P := fun (i : Nat) (s : Int64) => ∀ h2, SCM h h2 (nI 0) rc mc tch frs → GW X 89 [some (.ref 40), some (.long s), none, some (.int (nI i)), none] [] h2 (n + (9 + 8 * rc)) (9 + 8 * rc) (81 + 64 * rc)) (step := fun i s => itr (fun q d => d * 31 + (bellT wd vt ws st rc (i / 6) (i % 6) q).toInt64) 3 s) 18 d0 ?_ ?_) h1 ⟨fun j hj => (hk1K j hj).trans (rfl), ⟨_, _, _, _, _, _, _, _, _, _, _, q40_1, q46_1, q47_1, q48_1, q49_1, q50_1, q56_1, q57_1, q58_1, q59_1, q60_1⟩⟩
  · intro i1 s2 hi1 es2 ihi1 h3 hk4
    clear q40_1 q46_1 q47_1 q48_1 q49_1 q50_1 q56_1 q57_1 q58_1 q59_1 q60_1 len1 ady1 co1 dg1 rw_1 go1 we1 avt1 ati1 afa1 ast1 hk1K
    obtain ⟨hk4K, len3, ady3, co3, dg3, rw_3, go3, we3, avt3, ati3, afa3, ast3, q40_3, q46_3, q47_3, q48_3, q49_3, q50_3, q56_3, q57_3, q58_3, q59_3, q60_3⟩ := hk4
    show GW X 89 [some (.ref 40), some (.long s2), none, some (.int (nI i1)), none] [] h3 (n + (9 + 8 * rc)) (9 + 8 * rc) (81 + 64 * rc)
    have ihi1 : ∀ h9, SCM h h9 (nI 0) rc mc tch frs → GW X 89 [some (.ref 40), some (.long (itr (fun q d => d * 31 + (bellT wd vt ws st rc (i1 / 6) (i1 % 6) q).toInt64) 3 s2)), none, some (.int (nI (i1 + 1))), none] [] h9 (n + (9 + 8 * rc)) (9 + 8 * rc) (81 + 64 * rc) := ihi1
    refine g_iload_n hX dX5_digest_89 rfl rfl ?_
    refine g_bipush (v := (nI 18)) hX dX5_digest_90 (by decide) ?_
    refine g_icmp_geN (tgt := 138) hX dX5_digest_92 (by decide) (by omega) (fun c5 => absurd c5 (by omega)) (fun c5 => ?_)
    refine g_iconst (v := (nI 0)) hX dX5_digest_95 (by decide) ?_
    refine g_istore hX dX5_digest_96 (Nat.le_of_ble_eq_true rfl) rfl ?_
    refine (show ∀ h2, SCM h h2 (nI 0) rc mc tch frs → GW X 98 [some (.ref 40), some (.long s2), none, some (.int (nI i1)), some (.int (nI 0))] [] h2 (n + (9 + 8 * rc)) (9 + 8 * rc) (81 + 64 * rc) from g_for (P := fun (i : Nat) (s : Int64) => ∀ h2, SCM h h2 (nI 0) rc mc tch frs → GW X 98 [some (.ref 40), some (.long s), none, some (.int (nI i1)), some (.int (nI i))] [] h2 (n + (9 + 8 * rc)) (9 + 8 * rc) (81 + 64 * rc)) (step := fun i s => s * 31 + (bellT wd vt ws st rc (i1 / 6) (i1 % 6) i).toInt64) 3 s2 ?_ ?_) h3 ⟨fun j hj => (hk4K j hj).trans (rfl), ⟨_, _, _, _, _, _, _, _, _, _, _, q40_3, q46_3, q47_3, q48_3, q49_3, q50_3, q56_3, q57_3, q58_3, q59_3, q60_3⟩⟩
    · intro i6 s7 hi6 es7 ihi6 h8 hk9
      clear q40_3 q46_3 q47_3 q48_3 q49_3 q50_3 q56_3 q57_3 q58_3 q59_3 q60_3 len3 ady3 co3 dg3 rw_3 go3 we3 avt3 ati3 afa3 ast3 hk4K
      obtain ⟨hk9K, len8, ady8, co8, dg8, rw_8, go8, we8, avt8, ati8, afa8, ast8, q40_8, q46_8, q47_8, q48_8, q49_8, q50_8, q56_8, q57_8, q58_8, q59_8, q60_8⟩ := hk9
      show GW X 98 [some (.ref 40), some (.long s7), none, some (.int (nI i1)), some (.int (nI i6))] [] h8 (n + (9 + 8 * rc)) (9 + 8 * rc) (81 + 64 * rc)
      have ihi6 : ∀ h9, SCM h h9 (nI 0) rc mc tch frs → GW X 98 [some (.ref 40), some (.long (s7 * 31 + (bellT wd vt ws st rc (i1 / 6) (i1 % 6) i6).toInt64)), none, some (.int (nI i1)), some (.int (nI (i6 + 1)))] [] h9 (n + (9 + 8 * rc)) (9 + 8 * rc) (81 + 64 * rc) := ihi6
      refine g_iload hX dX5_digest_98 rfl ?_
      refine g_iconst (v := (nI 2)) hX dX5_digest_100 (by decide) ?_
      refine g_icmp_gtN (tgt := 132) hX dX5_digest_101 (by decide) (by omega) (fun c10 => absurd c10 (by omega)) (fun c10 => ?_)
      refine g_lload_n hX dX5_digest_104 rfl rfl ?_
      refine g_ldc2 hX dX5_digest_105 cl_X5_188 ?_
      refine g_lmul hX dX5_digest_108 ?_
      refine g_aload_n hX dX5_digest_109 rfl rfl ?_
      refine g_iload_n hX dX5_digest_110 rfl rfl ?_
      refine g_bipush (v := (nI 6)) hX dX5_digest_111 (by decide) ?_
      refine g_idivN hX dX5_digest_113 (by omega) (by omega) (by omega) ?_
      refine g_iload_n hX dX5_digest_114 rfl rfl ?_
      refine g_bipush (v := (nI 6)) hX dX5_digest_115 (by decide) ?_
      refine g_iremN hX dX5_digest_117 (by omega) (by omega) (by omega) ?_
      refine g_iload hX dX5_digest_118 rfl ?_
      refine g_callV (As := [.int (nI (i1 / 6)), .int (nI (i1 % 6)), .int (nI i6)]) hX dX5_digest_120 cb_X5_bellTold ml_X5_134 im_X5_bellTold se_X5_bellTold rfl rfl (q40_8) ⟨_, rfl, rfl⟩ (kX5_bellTold hst (q40_8) ((hk9K _ (by decide)).trans (mwd)) ((hk9K _ (by decide)).trans (msk)) ((hk9K _ (by decide)).trans (mws)) ((hk9K _ (by decide)).trans (mmn)) ((hk9K _ (by decide)).trans (mcs)) (q46_8) (q47_8) (q48_8) (q49_8) (q50_8) ((hk9K _ (by decide)).trans (s0)) ((hk9K _ (by decide)).trans (svt)) ((hk9K _ (by decide)).trans (sti)) ((hk9K _ (by decide)).trans (sfa)) ((hk9K _ (by decide)).trans (sst)) (q56_8) (q57_8) (q58_8) (q59_8) (q60_8) (by omega) (by omega) hsi hvp (by omega) (by omega) (by omega)) (Nat.le_of_ble_eq_true rfl) (Nat.le_of_ble_eq_true rfl) (by omega) (by omega) (Nat.le_of_ble_eq_true rfl) GX.no ?_
      rintro _ h11 _ - ⟨rfl, rfl, hk12⟩
      show GW X 123 [some (.ref 40), some (.long s7), none, some (.int (nI i1)), some (.int (nI i6))] [.int (bellT wd vt ws st rc (i1 / 6) (i1 % 6) i6), .long (s7 * 31)] h11 (n + (9 + 8 * rc)) (9 + 8 * rc) (81 + 64 * rc)
      obtain ⟨hk12K, len11, ady11, co11, dg11, rw_11, go11, we11, avt11, ati11, afa11, ast11, q40_11, q46_11, q47_11, q48_11, q49_11, q50_11, q56_11, q57_11, q58_11, q59_11, q60_11⟩ := hk12
      refine g_i2l hX dX5_digest_123 ?_
      refine g_ladd hX dX5_digest_124 ?_
      refine g_lstore_n (i := 1) hX dX5_digest_125 rfl (Nat.le_of_ble_eq_true rfl) rfl ?_
      refine g_iinc (v := (nI (i6 + 1))) hX dX5_digest_126 rfl rfl (gn_inc _ _) ?_
      refine g_goto (tgt := 98) hX dX5_digest_129 (by decide) ?_
      exact g_cv (ihi6 _ ⟨fun j hj => (hk12K j hj).trans ((hk9K j hj).trans (rfl)), ⟨_, _, _, _, _, _, _, _, _, _, _, q40_11, q46_11, q47_11, q48_11, q49_11, q50_11, q56_11, q57_11, q58_11, q59_11, q60_11⟩⟩) rfl rfl
    · intro h13 hk14
      clear q40_3 q46_3 q47_3 q48_3 q49_3 q50_3 q56_3 q57_3 q58_3 q59_3 q60_3 len3 ady3 co3 dg3 rw_3 go3 we3 avt3 ati3 afa3 ast3 hk4K
      obtain ⟨hk14K, len13, ady13, co13, dg13, rw_13, go13, we13, avt13, ati13, afa13, ast13, q40_13, q46_13, q47_13, q48_13, q49_13, q50_13, q56_13, q57_13, q58_13, q59_13, q60_13⟩ := hk14
      show GW X 98 [some (.ref 40), some (.long (itr (fun i s => s * 31 + (bellT wd vt ws st rc (i1 / 6) (i1 % 6) i).toInt64) 3 s2)), none, some (.int (nI i1)), some (.int (nI 3))] [] h13 (n + (9 + 8 * rc)) (9 + 8 * rc) (81 + 64 * rc)
      refine g_iload hX dX5_digest_98 rfl ?_
      refine g_iconst (v := (nI 2)) hX dX5_digest_100 (by decide) ?_
      refine g_icmp_gt (tgt := 132) hX dX5_digest_101 (by decide) (fun _ => ?_) (fun c => absurd (by decide) c)
      refine g_iinc (v := (nI (i1 + 1))) hX dX5_digest_132 rfl rfl (gn_inc _ _) ?_
      refine g_goto (tgt := 89) hX dX5_digest_135 (by decide) ?_
      refine g_kill 4 ?_
      exact g_cv (ihi1 _ ⟨fun j hj => (hk14K j hj).trans (rfl), ⟨_, _, _, _, _, _, _, _, _, _, _, q40_13, q46_13, q47_13, q48_13, q49_13, q50_13, q56_13, q57_13, q58_13, q59_13, q60_13⟩⟩) rfl rfl
  · intro h15 hk16
    clear q40_1 q46_1 q47_1 q48_1 q49_1 q50_1 q56_1 q57_1 q58_1 q59_1 q60_1 len1 ady1 co1 dg1 rw_1 go1 we1 avt1 ati1 afa1 ast1 hk1K
    obtain ⟨hk16K, len15, ady15, co15, dg15, rw_15, go15, we15, avt15, ati15, afa15, ast15, q40_15, q46_15, q47_15, q48_15, q49_15, q50_15, q56_15, q57_15, q58_15, q59_15, q60_15⟩ := hk16
    show GW X 89 [some (.ref 40), some (.long (itr (fun i s => itr (fun q d => d * 31 + (bellT wd vt ws st rc (i / 6) (i % 6) q).toInt64) 3 s) 18 d0)), none, some (.int (nI 18)), none] [] h15 (n + (9 + 8 * rc)) (9 + 8 * rc) (81 + 64 * rc)
    refine g_iload_n hX dX5_digest_89 rfl rfl ?_
    refine g_bipush (v := (nI 18)) hX dX5_digest_90 (by decide) ?_
    refine g_icmp_ge (tgt := 138) hX dX5_digest_92 (by decide) (fun _ => ?_) (fun c => absurd (by decide) c)
    refine g_kill 3 ?_
    refine g_cn (n' := (n + (9 + 8 * rc))) (kc' := (9 + 8 * rc)) (ks' := (81 + 64 * rc)) (by omega) (by omega) (by omega) ?_
    exact kk _ ⟨fun j hj => (hk16K j hj).trans (rfl), ⟨_, _, _, _, _, _, _, _, _, _, _, q40_15, q46_15, q47_15, q48_15, q49_15, q50_15, q56_15, q57_15, q58_15, q59_15, q60_15⟩⟩
set_option maxRecDepth 20000 in
set_option maxHeartbeats 3000000 in
theorem dseg4 {l : Launch} {K : gw_K} (hst : l.stackTraces = false) {n : Nat} {h : gw_H} {rc mc : Nat} {thr tch frs len dy ady : Int32} {mn : Nat → Nat} {wd sk ws cs co dg rw_ go we vt ti fa st avt ati afa ast : Nat → Int32}  {d0 : Int64} {X : gw_X} (hX : FX l K X cX5_digest RX5 5 127 (9 + 8 * rc + 6 * mc) (81 + 64 * rc + 36 * mc))  (m0 : h 40 = (oB 5 [.int thr, .int (nI rc), .ref 41, .ref 42, .ref 43, .int (nI mc), .ref 44, .ref 45, .int tch, .int frs, .ref 46, .ref 47, .int len, .ref 48, .ref 49, .ref 50, .ref 51, .ref 56])) (mwd : h 41 = (aI 20 wd)) (msk : h 42 = (aI 20 sk)) (mws : h 43 = (aI 18 ws)) (mmn : h 44 = (aI 5 (fun k => nI (mn k)))) (mcs : h 45 = (aI 60 cs)) (mco : h 46 = (aI 201 co)) (mdg : h 47 = (aI 201 dg)) (mrw : h 48 = (aI 6 rw_)) (mgo : h 49 = (aI 6 go)) (mwe : h 50 = (aI 6 we)) (s0 : h 51 = (oB 4 [.int dy, .ref (51 + 1), .ref (51 + 2), .ref (51 + 3), .ref (51 + 4), .ref 40])) (svt : h (51 + 1) = (aI 20 vt)) (sti : h (51 + 2) = (aI 20 ti)) (sfa : h (51 + 3) = (aI 20 fa)) (sst : h (51 + 4) = (aI 20 st)) (a0 : h 56 = (oB 4 [.int ady, .ref (56 + 1), .ref (56 + 2), .ref (56 + 3), .ref (56 + 4), .ref 40])) (avt : h (56 + 1) = (aI 20 avt)) (ati : h (56 + 2) = (aI 20 ati)) (afa : h (56 + 3) = (aI 20 afa)) (ast : h (56 + 4) = (aI 20 ast)) (hn62 : 62 ≤ n) (hm5 : mc ≤ 5) (hrc : rc ≤ 20) (hsi : seatI st rc) (hvp : ∀ r, r < rc → 0 ≤ vt r) (hmc : ∀ m, m < mc → mn m ≤ 12 ∧ codI (chM cs mn m) (crM (chM cs mn m) (mn m) * mn m) = nI 1865) : ∀ h1, SCM h h1 (nI 0) rc mc tch frs → (∀ h2, SCM h h2 (nI 0) rc mc tch frs → GW X 260 [some (.ref 40), some (.long (mdgM cs mn mc d0)), none, none, none] [] h2 (n + (9 + 8 * rc + 6 * mc)) (9 + 8 * rc + 6 * mc) (81 + 64 * rc + 36 * mc)) → GW X 138 [some (.ref 40), some (.long d0), none, none, none] [] h1 (n + (9 + 8 * rc)) (9 + 8 * rc) (81 + 64 * rc) := by
  rintro h1 hk1 kk
  have hso : ∀ r, r < rc → seatOK (st r) := fun r hr => (hsi r hr).1
  obtain ⟨hk1K, len1, ady1, co1, dg1, rw_1, go1, we1, avt1, ati1, afa1, ast1, q40_1, q46_1, q47_1, q48_1, q49_1, q50_1, q56_1, q57_1, q58_1, q59_1, q60_1⟩ := hk1
  refine g_iconst (v := (nI 0)) hX dX5_digest_138 (by decide) ?_
  refine g_istore_n (i := 3) hX dX5_digest_139 rfl (Nat.le_of_ble_eq_true rfl) rfl ?_
  refine g_cn (n' := (n + (9 + 8 * rc + 6 * 0))) (kc' := (9 + 8 * rc + 6 * 0)) (ks' := (81 + 64 * rc + 36 * 0)) (by omega) (by omega) (by omega) ?_
  refine (show ∀ h2, SCM h h2 (nI 0) rc mc tch frs → GW X 140 [some (.ref 40), some (.long d0), none, some (.int (nI 0)), none] [] h2 (n + (9 + 8 * rc + 6 * 0)) (9 + 8 * rc + 6 * 0) (81 + 64 * rc + 36 * 0) from g_for (P := fun (i : Nat) (s : Int64) => ∀ h2, SCM h h2 (nI 0) rc mc tch frs → GW X 140 [some (.ref 40), some (.long s), none, some (.int (nI i)), none] [] h2 (n + (9 + 8 * rc + 6 * i)) (9 + 8 * rc + 6 * i) (81 + 64 * rc + 36 * i)) (step := fun i s => itr (fun b d => d * 31 + (dofI (ddgI (chM cs mn i)) b (crM (chM cs mn i) (mn i) * mn i)).toInt64) 6 (itr (fun z d => d * 31 + (cs (12 * i + z)).toInt64) (mn i) (itr (fun q d => d * 31 + (mtI (chM cs mn i) (mn i) q).toInt64) 6 s))) mc d0 ?_ ?_) h1 ⟨fun j hj => (hk1K j hj).trans (rfl), ⟨_, _, _, _, _, _, _, _, _, _, _, q40_1, q46_1, q47_1, q48_1, q49_1, q50_1, q56_1, q57_1, q58_1, q59_1, q60_1⟩⟩
  · intro i1 s2 hi1 es2 ihi1 h3 hk4
    clear q40_1 q46_1 q47_1 q48_1 q49_1 q50_1 q56_1 q57_1 q58_1 q59_1 q60_1 len1 ady1 co1 dg1 rw_1 go1 we1 avt1 ati1 afa1 ast1 hk1K
    obtain ⟨hk4K, len3, ady3, co3, dg3, rw_3, go3, we3, avt3, ati3, afa3, ast3, q40_3, q46_3, q47_3, q48_3, q49_3, q50_3, q56_3, q57_3, q58_3, q59_3, q60_3⟩ := hk4
    show GW X 140 [some (.ref 40), some (.long s2), none, some (.int (nI i1)), none] [] h3 (n + (9 + 8 * rc + 6 * i1)) (9 + 8 * rc + 6 * i1) (81 + 64 * rc + 36 * i1)
    have ihi1 : ∀ h9, SCM h h9 (nI 0) rc mc tch frs → GW X 140 [some (.ref 40), some (.long (itr (fun b d => d * 31 + (dofI (ddgI (chM cs mn i1)) b (crM (chM cs mn i1) (mn i1) * mn i1)).toInt64) 6 (itr (fun z d => d * 31 + (cs (12 * i1 + z)).toInt64) (mn i1) (itr (fun q d => d * 31 + (mtI (chM cs mn i1) (mn i1) q).toInt64) 6 s2)))), none, some (.int (nI (i1 + 1))), none] [] h9 (n + (9 + 8 * rc + 6 * (i1 + 1))) (9 + 8 * rc + 6 * (i1 + 1)) (81 + 64 * rc + 36 * (i1 + 1)) := ihi1
    obtain ⟨hmn_i1, hcr_i1⟩ := hmc i1 hi1
    refine g_iload_n hX dX5_digest_140 rfl rfl ?_
    refine g_aload_n hX dX5_digest_141 rfl rfl ?_
    refine g_getf hX dX5_digest_142 fl_X5_63 (q40_3) rfl ?_
    refine g_icmp_geN (tgt := 260) hX dX5_digest_145 (by decide) (by omega) (fun c5 => absurd c5 (by omega)) (fun c5 => ?_)
    refine g_iconst (v := (nI 0)) hX dX5_digest_148 (by decide) ?_
    refine g_istore hX dX5_digest_149 (Nat.le_of_ble_eq_true rfl) rfl ?_
    refine g_cn (n' := (n + (9 + 8 * rc + 6 * i1 + 0))) (kc' := (9 + 8 * rc + 6 * i1 + 0)) (ks' := (81 + 64 * rc + 36 * i1 + 6 * 0)) (by omega) (by omega) (by omega) ?_
    refine (show ∀ h2, SCM h h2 (nI 0) rc mc tch frs → GW X 151 [some (.ref 40), some (.long s2), none, some (.int (nI i1)), some (.int (nI 0))] [] h2 (n + (9 + 8 * rc + 6 * i1 + 0)) (9 + 8 * rc + 6 * i1 + 0) (81 + 64 * rc + 36 * i1 + 6 * 0) from g_for (P := fun (i : Nat) (s : Int64) => ∀ h2, SCM h h2 (nI 0) rc mc tch frs → GW X 151 [some (.ref 40), some (.long s), none, some (.int (nI i1)), some (.int (nI i))] [] h2 (n + (9 + 8 * rc + 6 * i1 + i)) (9 + 8 * rc + 6 * i1 + i) (81 + 64 * rc + 36 * i1 + 6 * i)) (step := fun i s => s * 31 + (mtI (chM cs mn i1) (mn i1) i).toInt64) 6 s2 ?_ ?_) h3 ⟨fun j hj => (hk4K j hj).trans (rfl), ⟨_, _, _, _, _, _, _, _, _, _, _, q40_3, q46_3, q47_3, q48_3, q49_3, q50_3, q56_3, q57_3, q58_3, q59_3, q60_3⟩⟩
    · intro i6 s7 hi6 es7 ihi6 h8 hk9
      clear q40_3 q46_3 q47_3 q48_3 q49_3 q50_3 q56_3 q57_3 q58_3 q59_3 q60_3 len3 ady3 co3 dg3 rw_3 go3 we3 avt3 ati3 afa3 ast3 hk4K
      obtain ⟨hk9K, len8, ady8, co8, dg8, rw_8, go8, we8, avt8, ati8, afa8, ast8, q40_8, q46_8, q47_8, q48_8, q49_8, q50_8, q56_8, q57_8, q58_8, q59_8, q60_8⟩ := hk9
      show GW X 151 [some (.ref 40), some (.long s7), none, some (.int (nI i1)), some (.int (nI i6))] [] h8 (n + (9 + 8 * rc + 6 * i1 + i6)) (9 + 8 * rc + 6 * i1 + i6) (81 + 64 * rc + 36 * i1 + 6 * i6)
      have ihi6 : ∀ h9, SCM h h9 (nI 0) rc mc tch frs → GW X 151 [some (.ref 40), some (.long (s7 * 31 + (mtI (chM cs mn i1) (mn i1) i6).toInt64)), none, some (.int (nI i1)), some (.int (nI (i6 + 1)))] [] h9 (n + (9 + 8 * rc + 6 * i1 + (i6 + 1))) (9 + 8 * rc + 6 * i1 + (i6 + 1)) (81 + 64 * rc + 36 * i1 + 6 * (i6 + 1)) := ihi6
      refine g_iload hX dX5_digest_151 rfl ?_
      refine g_iconst (v := (nI 5)) hX dX5_digest_153 (by decide) ?_
      refine g_icmp_gtN (tgt := 178) hX dX5_digest_154 (by decide) (by omega) (fun c10 => absurd c10 (by omega)) (fun c10 => ?_)
      refine g_lload_n hX dX5_digest_157 rfl rfl ?_
      refine g_ldc2 hX dX5_digest_158 cl_X5_188 ?_
      refine g_lmul hX dX5_digest_161 ?_
      refine g_aload_n hX dX5_digest_162 rfl rfl ?_
      refine g_iload_n hX dX5_digest_163 rfl rfl ?_
      refine g_iload hX dX5_digest_164 rfl ?_
      refine g_callV (As := [.int (nI i1), .int (nI i6)]) hX dX5_digest_166 cb_X5_methodTold ml_X5_150 im_X5_methodTold se_X5_methodTold rfl rfl (q40_8) ⟨_, rfl, rfl⟩ (kX5_methodTold (m := i1) (q := i6) hst (q40_8) ((hk9K _ (by decide)).trans (mwd)) ((hk9K _ (by decide)).trans (msk)) ((hk9K _ (by decide)).trans (mws)) ((hk9K _ (by decide)).trans (mmn)) ((hk9K _ (by decide)).trans (mcs)) (q46_8) (q47_8) (q48_8) (q49_8) (q50_8) ((hk9K _ (by decide)).trans (s0)) ((hk9K _ (by decide)).trans (svt)) ((hk9K _ (by decide)).trans (sti)) ((hk9K _ (by decide)).trans (sfa)) ((hk9K _ (by decide)).trans (sst)) (q56_8) (q57_8) (q58_8) (q59_8) (q60_8) (by omega) (by omega) (by omega) hmn_i1 hcr_i1 (by omega)) (Nat.le_of_ble_eq_true rfl) (Nat.le_of_ble_eq_true rfl) (by omega) (by omega) (Nat.le_of_ble_eq_true rfl) GX.no ?_
      rintro _ h11 _ - ⟨rfl, rfl, hk12⟩
      show GW X 169 [some (.ref 40), some (.long s7), none, some (.int (nI i1)), some (.int (nI i6))] [.int (mtI (chM cs mn i1) (mn i1) i6), .long (s7 * 31)] h11 ((n + (9 + 8 * rc + 6 * i1 + i6)) + 1) ((9 + 8 * rc + 6 * i1 + i6) + 1) ((81 + 64 * rc + 36 * i1 + 6 * i6) + 6)
      obtain ⟨hk12K, len11, ady11, co11, dg11, rw_11, go11, we11, avt11, ati11, afa11, ast11, q40_11, q46_11, q47_11, q48_11, q49_11, q50_11, q56_11, q57_11, q58_11, q59_11, q60_11⟩ := hk12
      refine g_i2l hX dX5_digest_169 ?_
      refine g_ladd hX dX5_digest_170 ?_
      refine g_lstore_n (i := 1) hX dX5_digest_171 rfl (Nat.le_of_ble_eq_true rfl) rfl ?_
      refine g_iinc (v := (nI (i6 + 1))) hX dX5_digest_172 rfl rfl (gn_inc _ _) ?_
      refine g_goto (tgt := 151) hX dX5_digest_175 (by decide) ?_
      refine g_cn (n' := (n + (9 + 8 * rc + 6 * i1 + (i6 + 1)))) (kc' := (9 + 8 * rc + 6 * i1 + (i6 + 1))) (ks' := (81 + 64 * rc + 36 * i1 + 6 * (i6 + 1))) (by omega) (by omega) (by omega) ?_
      exact g_cv (ihi6 _ ⟨fun j hj => (hk12K j hj).trans ((hk9K j hj).trans (rfl)), ⟨_, _, _, _, _, _, _, _, _, _, _, q40_11, q46_11, q47_11, q48_11, q49_11, q50_11, q56_11, q57_11, q58_11, q59_11, q60_11⟩⟩) rfl rfl
    · intro h13 hk14
      clear q40_3 q46_3 q47_3 q48_3 q49_3 q50_3 q56_3 q57_3 q58_3 q59_3 q60_3 len3 ady3 co3 dg3 rw_3 go3 we3 avt3 ati3 afa3 ast3 hk4K
      obtain ⟨hk14K, len13, ady13, co13, dg13, rw_13, go13, we13, avt13, ati13, afa13, ast13, q40_13, q46_13, q47_13, q48_13, q49_13, q50_13, q56_13, q57_13, q58_13, q59_13, q60_13⟩ := hk14
      show GW X 151 [some (.ref 40), some (.long (itr (fun i s => s * 31 + (mtI (chM cs mn i1) (mn i1) i).toInt64) 6 s2)), none, some (.int (nI i1)), some (.int (nI 6))] [] h13 (n + (9 + 8 * rc + 6 * i1 + 6)) (9 + 8 * rc + 6 * i1 + 6) (81 + 64 * rc + 36 * i1 + 6 * 6)
      refine g_iload hX dX5_digest_151 rfl ?_
      refine g_iconst (v := (nI 5)) hX dX5_digest_153 (by decide) ?_
      refine g_icmp_gt (tgt := 178) hX dX5_digest_154 (by decide) (fun _ => ?_) (fun c => absurd (by decide) c)
      refine g_iconst (v := (nI 0)) hX dX5_digest_178 (by decide) ?_
      refine g_istore hX dX5_digest_179 (Nat.le_of_ble_eq_true rfl) rfl ?_
      refine g_cn (n' := (n + (9 + 8 * rc + 6 * i1 + 6))) (kc' := (9 + 8 * rc + 6 * i1 + 6)) (ks' := (81 + 64 * rc + 36 * i1 + 36)) (by omega) (by omega) (by omega) ?_
      refine (show ∀ h2, SCM h h2 (nI 0) rc mc tch frs → GW X 181 [some (.ref 40), some (.long (itr (fun i s => s * 31 + (mtI (chM cs mn i1) (mn i1) i).toInt64) 6 s2)), none, some (.int (nI i1)), some (.int (nI 0))] [] h2 (n + (9 + 8 * rc + 6 * i1 + 6)) (9 + 8 * rc + 6 * i1 + 6) (81 + 64 * rc + 36 * i1 + 36) from g_for (P := fun (i : Nat) (s : Int64) => ∀ h2, SCM h h2 (nI 0) rc mc tch frs → GW X 181 [some (.ref 40), some (.long s), none, some (.int (nI i1)), some (.int (nI i))] [] h2 (n + (9 + 8 * rc + 6 * i1 + 6)) (9 + 8 * rc + 6 * i1 + 6) (81 + 64 * rc + 36 * i1 + 36)) (step := fun i s => s * 31 + (cs (12 * i1 + i)).toInt64) (mn i1) (itr (fun i s => s * 31 + (mtI (chM cs mn i1) (mn i1) i).toInt64) 6 s2) ?_ ?_) h13 ⟨fun j hj => (hk14K j hj).trans (rfl), ⟨_, _, _, _, _, _, _, _, _, _, _, q40_13, q46_13, q47_13, q48_13, q49_13, q50_13, q56_13, q57_13, q58_13, q59_13, q60_13⟩⟩
      · intro i15 s16 hi15 es16 ihi15 h17 hk18
        clear q40_13 q46_13 q47_13 q48_13 q49_13 q50_13 q56_13 q57_13 q58_13 q59_13 q60_13 len13 ady13 co13 dg13 rw_13 go13 we13 avt13 ati13 afa13 ast13 hk14K
        obtain ⟨hk18K, len17, ady17, co17, dg17, rw_17, go17, we17, avt17, ati17, afa17, ast17, q40_17, q46_17, q47_17, q48_17, q49_17, q50_17, q56_17, q57_17, q58_17, q59_17, q60_17⟩ := hk18
        show GW X 181 [some (.ref 40), some (.long s16), none, some (.int (nI i1)), some (.int (nI i15))] [] h17 (n + (9 + 8 * rc + 6 * i1 + 6)) (9 + 8 * rc + 6 * i1 + 6) (81 + 64 * rc + 36 * i1 + 36)
        have ihi15 : ∀ h9, SCM h h9 (nI 0) rc mc tch frs → GW X 181 [some (.ref 40), some (.long (s16 * 31 + (cs (12 * i1 + i15)).toInt64)), none, some (.int (nI i1)), some (.int (nI (i15 + 1)))] [] h9 (n + (9 + 8 * rc + 6 * i1 + 6)) (9 + 8 * rc + 6 * i1 + 6) (81 + 64 * rc + 36 * i1 + 36) := ihi15
        refine g_iload hX dX5_digest_181 rfl ?_
        refine g_aload_n hX dX5_digest_183 rfl rfl ?_
        refine g_getf hX dX5_digest_184 fl_X5_19 (q40_17) rfl ?_
        refine g_iload_n hX dX5_digest_187 rfl rfl ?_
        refine g_iaload hX dX5_digest_188 ((hk18K _ (by decide)).trans (mmn)) (i1) (by omega) rfl (by omega) ?_
        refine g_icmp_geN (tgt := 218) hX dX5_digest_189 (by decide) (by omega) (fun c19 => absurd c19 (by omega)) (fun c19 => ?_)
        refine g_lload_n hX dX5_digest_192 rfl rfl ?_
        refine g_ldc2 hX dX5_digest_193 cl_X5_188 ?_
        refine g_lmul hX dX5_digest_196 ?_
        refine g_aload_n hX dX5_digest_197 rfl rfl ?_
        refine g_getf hX dX5_digest_198 fl_X5_22 (q40_17) rfl ?_
        refine g_bipush (v := (nI 12)) hX dX5_digest_201 (by decide) ?_
        refine g_iload_n hX dX5_digest_203 rfl rfl ?_
        refine g_imulN hX dX5_digest_204 ?_
        refine g_iload hX dX5_digest_205 rfl ?_
        refine g_iaddN hX dX5_digest_207 ?_
        refine g_iaload hX dX5_digest_208 ((hk18K _ (by decide)).trans (mcs)) ((12 * i1) + i15) (by omega) rfl (by omega) ?_
        refine g_i2l hX dX5_digest_209 ?_
        refine g_ladd hX dX5_digest_210 ?_
        refine g_lstore_n (i := 1) hX dX5_digest_211 rfl (Nat.le_of_ble_eq_true rfl) rfl ?_
        refine g_iinc (v := (nI (i15 + 1))) hX dX5_digest_212 rfl rfl (gn_inc _ _) ?_
        refine g_goto (tgt := 181) hX dX5_digest_215 (by decide) ?_
        exact g_cv (ihi15 _ ⟨fun j hj => (hk18K j hj).trans (rfl), ⟨_, _, _, _, _, _, _, _, _, _, _, q40_17, q46_17, q47_17, q48_17, q49_17, q50_17, q56_17, q57_17, q58_17, q59_17, q60_17⟩⟩) rfl rfl
      · intro h20 hk21
        clear q40_13 q46_13 q47_13 q48_13 q49_13 q50_13 q56_13 q57_13 q58_13 q59_13 q60_13 len13 ady13 co13 dg13 rw_13 go13 we13 avt13 ati13 afa13 ast13 hk14K
        obtain ⟨hk21K, len20, ady20, co20, dg20, rw_20, go20, we20, avt20, ati20, afa20, ast20, q40_20, q46_20, q47_20, q48_20, q49_20, q50_20, q56_20, q57_20, q58_20, q59_20, q60_20⟩ := hk21
        show GW X 181 [some (.ref 40), some (.long (itr (fun i s => s * 31 + (cs (12 * i1 + i)).toInt64) (mn i1) (itr (fun i s => s * 31 + (mtI (chM cs mn i1) (mn i1) i).toInt64) 6 s2))), none, some (.int (nI i1)), some (.int (nI (mn i1)))] [] h20 (n + (9 + 8 * rc + 6 * i1 + 6)) (9 + 8 * rc + 6 * i1 + 6) (81 + 64 * rc + 36 * i1 + 36)
        refine g_iload hX dX5_digest_181 rfl ?_
        refine g_aload_n hX dX5_digest_183 rfl rfl ?_
        refine g_getf hX dX5_digest_184 fl_X5_19 (q40_20) rfl ?_
        refine g_iload_n hX dX5_digest_187 rfl rfl ?_
        refine g_iaload hX dX5_digest_188 ((hk21K _ (by decide)).trans (mmn)) (i1) (by omega) rfl (by omega) ?_
        refine g_icmp_geN (tgt := 218) hX dX5_digest_189 (by decide) (by omega) (fun c22 => ?_) (fun c22 => absurd c22 (by omega))
        refine g_aload_n hX dX5_digest_218 rfl rfl ?_
        refine g_iload_n hX dX5_digest_219 rfl rfl ?_
        have hcm_hk24 := crM_le (chM cs mn i1) (mn i1)
        have hcn_hk24 := Nat.mul_le_mul hcm_hk24.2 (show mn i1 ≤ 12 by omega)
        refine g_callV (As := [.int (nI i1)]) hX dX5_digest_220 cb_X5_course ml_X5_141 im_X5_course se_X5_course rfl rfl (q40_20) ⟨_, rfl, rfl⟩ (kX5_course hst (q40_20) ((hk21K _ (by decide)).trans (mmn)) ((hk21K _ (by decide)).trans (mcs)) (q46_20) (q47_20) (q48_20) (q49_20) (q50_20) (by omega) (by omega) (hcr_i1)) (Nat.le_of_ble_eq_true rfl) (Nat.le_of_ble_eq_true rfl) (by omega) (by omega) (Nat.le_of_ble_eq_true rfl) GX.no ?_
        rintro _ h23 _ - ⟨rfl, rfl, hk24⟩
        show GW X 223 [some (.ref 40), some (.long (itr (fun i s => s * 31 + (cs (12 * i1 + i)).toInt64) (mn i1) (itr (fun i s => s * 31 + (mtI (chM cs mn i1) (mn i1) i).toInt64) 6 s2))), none, some (.int (nI i1)), some (.int (nI (mn i1)))] [.int (nI (crM (chM cs mn i1) (mn i1)))] h23 (n + (9 + 8 * rc + 6 * i1 + 6)) (9 + 8 * rc + 6 * i1 + 6) (81 + 64 * rc + 36 * i1 + 36)
        obtain ⟨hk24K, co23, dg23, rw_23, go23, we23, q46_23, q47_23, q48_23, q49_23, q50_23, hco23, hdg23⟩ := id hk24
        refine g_pop hX dX5_digest_223 rfl ?_
        refine g_iconst (v := (nI 0)) hX dX5_digest_224 (by decide) ?_
        refine g_istore hX dX5_digest_225 (Nat.le_of_ble_eq_true rfl) rfl ?_
        refine g_for (P := fun (i : Nat) (s : Int64) => GW X 227 [some (.ref 40), some (.long s), none, some (.int (nI i1)), some (.int (nI i))] [] h23 (n + (9 + 8 * rc + 6 * i1 + 6)) (9 + 8 * rc + 6 * i1 + 6) (81 + 64 * rc + 36 * i1 + 36)) (step := fun i s => s * 31 + (dofI (ddgI (chM cs mn i1)) i (crM (chM cs mn i1) (mn i1) * mn i1)).toInt64) 6 (itr (fun i s => s * 31 + (cs (12 * i1 + i)).toInt64) (mn i1) (itr (fun i s => s * 31 + (mtI (chM cs mn i1) (mn i1) i).toInt64) 6 s2)) ?_ ?_
        · intro i25 s26 hi25 es26 ihi25
          have ihi25 : GW X 227 [some (.ref 40), some (.long (s26 * 31 + (dofI (ddgI (chM cs mn i1)) i25 (crM (chM cs mn i1) (mn i1) * mn i1)).toInt64)), none, some (.int (nI i1)), some (.int (nI (i25 + 1)))] [] h23 (n + (9 + 8 * rc + 6 * i1 + 6)) (9 + 8 * rc + 6 * i1 + 6) (81 + 64 * rc + 36 * i1 + 36) := ihi25
          refine g_iload hX dX5_digest_227 rfl ?_
          refine g_bipush (v := (nI 6)) hX dX5_digest_229 (by decide) ?_
          refine g_icmp_geN (tgt := 254) hX dX5_digest_231 (by decide) (by omega) (fun c27 => absurd c27 (by omega)) (fun c27 => ?_)
          refine g_lload_n hX dX5_digest_234 rfl rfl ?_
          refine g_ldc2 hX dX5_digest_235 cl_X5_188 ?_
          refine g_lmul hX dX5_digest_238 ?_
          refine g_aload_n hX dX5_digest_239 rfl rfl ?_
          refine g_iload hX dX5_digest_240 rfl ?_
          refine g_callV (As := [.int (nI i25)]) hX dX5_digest_242 cb_X5_dodgesOf ml_X5_144 im_X5_dodgesOf se_X5_dodgesOf rfl rfl ((hk24K _ (by omega)).trans (hs_eq _ _ _)) ⟨_, rfl, rfl⟩ (kX5_dodgesOf hst ((hk24K _ (by omega)).trans (hs_eq _ _ _)) (q47_23) (by omega) (by omega) (hdg23)) (Nat.le_of_ble_eq_true rfl) (Nat.le_of_ble_eq_true rfl) (by omega) (by omega) (Nat.le_of_ble_eq_true rfl) GX.no (pq ?_)
          show GW X 245 [some (.ref 40), some (.long s26), none, some (.int (nI i1)), some (.int (nI i25))] [.int (dofI (ddgI (chM cs mn i1)) i25 (crM (chM cs mn i1) (mn i1) * (mn i1))), .long (s26 * 31)] h23 (n + (9 + 8 * rc + 6 * i1 + 6)) (9 + 8 * rc + 6 * i1 + 6) (81 + 64 * rc + 36 * i1 + 36)
          refine g_i2l hX dX5_digest_245 ?_
          refine g_ladd hX dX5_digest_246 ?_
          refine g_lstore_n (i := 1) hX dX5_digest_247 rfl (Nat.le_of_ble_eq_true rfl) rfl ?_
          refine g_iinc (v := (nI (i25 + 1))) hX dX5_digest_248 rfl rfl (gn_inc _ _) ?_
          refine g_goto (tgt := 227) hX dX5_digest_251 (by decide) ?_
          refine g_cv ihi25 rfl rfl
        · refine g_iload hX dX5_digest_227 rfl ?_
          refine g_bipush (v := (nI 6)) hX dX5_digest_229 (by decide) ?_
          refine g_icmp_ge (tgt := 254) hX dX5_digest_231 (by decide) (fun _ => ?_) (fun c => absurd (by decide) c)
          refine g_iinc (v := (nI (i1 + 1))) hX dX5_digest_254 rfl rfl (gn_inc _ _) ?_
          refine g_goto (tgt := 140) hX dX5_digest_257 (by decide) ?_
          refine g_kill 4 ?_
          refine g_cn (n' := (n + (9 + 8 * rc + 6 * (i1 + 1)))) (kc' := (9 + 8 * rc + 6 * (i1 + 1))) (ks' := (81 + 64 * rc + 36 * (i1 + 1))) (by omega) (by omega) (by omega) ?_
          exact g_cv (ihi1 _ ⟨fun j hj => (hk24K j (by omega)).trans ((hs_ne (by omega)).trans ((hk21K j hj).trans (rfl))), ⟨_, _, _, _, _, _, _, _, _, _, _, ((hk24K _ (by omega)).trans (hs_eq _ _ _)), q46_23, q47_23, q48_23, q49_23, q50_23, ((hk24K _ (by omega)).trans ((hs_ne (by omega)).trans (q56_20))), ((hk24K _ (by omega)).trans ((hs_ne (by omega)).trans (q57_20))), ((hk24K _ (by omega)).trans ((hs_ne (by omega)).trans (q58_20))), ((hk24K _ (by omega)).trans ((hs_ne (by omega)).trans (q59_20))), ((hk24K _ (by omega)).trans ((hs_ne (by omega)).trans (q60_20)))⟩⟩) rfl rfl
  · intro h28 hk29
    clear q40_1 q46_1 q47_1 q48_1 q49_1 q50_1 q56_1 q57_1 q58_1 q59_1 q60_1 len1 ady1 co1 dg1 rw_1 go1 we1 avt1 ati1 afa1 ast1 hk1K
    obtain ⟨hk29K, len28, ady28, co28, dg28, rw_28, go28, we28, avt28, ati28, afa28, ast28, q40_28, q46_28, q47_28, q48_28, q49_28, q50_28, q56_28, q57_28, q58_28, q59_28, q60_28⟩ := hk29
    show GW X 140 [some (.ref 40), some (.long (itr (fun i s => itr (fun b d => d * 31 + (dofI (ddgI (chM cs mn i)) b (crM (chM cs mn i) (mn i) * mn i)).toInt64) 6 (itr (fun z d => d * 31 + (cs (12 * i + z)).toInt64) (mn i) (itr (fun q d => d * 31 + (mtI (chM cs mn i) (mn i) q).toInt64) 6 s))) mc d0)), none, some (.int (nI mc)), none] [] h28 (n + (9 + 8 * rc + 6 * mc)) (9 + 8 * rc + 6 * mc) (81 + 64 * rc + 36 * mc)
    refine g_iload_n hX dX5_digest_140 rfl rfl ?_
    refine g_aload_n hX dX5_digest_141 rfl rfl ?_
    refine g_getf hX dX5_digest_142 fl_X5_63 (q40_28) rfl ?_
    refine g_icmp_geN (tgt := 260) hX dX5_digest_145 (by decide) (by omega) (fun c30 => ?_) (fun c30 => absurd c30 (by omega))
    refine g_kill 3 ?_
    refine g_cn (n' := (n + (9 + 8 * rc + 6 * mc))) (kc' := (9 + 8 * rc + 6 * mc)) (ks' := (81 + 64 * rc + 36 * mc)) (by omega) (by omega) (by omega) ?_
    exact kk _ ⟨fun j hj => (hk29K j hj).trans (rfl), ⟨_, _, _, _, _, _, _, _, _, _, _, q40_28, q46_28, q47_28, q48_28, q49_28, q50_28, q56_28, q57_28, q58_28, q59_28, q60_28⟩⟩
set_option maxRecDepth 20000 in
theorem kX5_digest {l : Launch} {K : gw_K} (hst : l.stackTraces = false) {n : Nat} {h : gw_H} {rc mc : Nat} {thr tch frs len dy ady : Int32} {mn : Nat → Nat} {wd sk ws cs co dg rw_ go we vt ti fa st avt ati afa ast : Nat → Int32}  (m0 : h 40 = (oB 5 [.int thr, .int (nI rc), .ref 41, .ref 42, .ref 43, .int (nI mc), .ref 44, .ref 45, .int tch, .int frs, .ref 46, .ref 47, .int len, .ref 48, .ref 49, .ref 50, .ref 51, .ref 56])) (mwd : h 41 = (aI 20 wd)) (msk : h 42 = (aI 20 sk)) (mws : h 43 = (aI 18 ws)) (mmn : h 44 = (aI 5 (fun k => nI (mn k)))) (mcs : h 45 = (aI 60 cs)) (mco : h 46 = (aI 201 co)) (mdg : h 47 = (aI 201 dg)) (mrw : h 48 = (aI 6 rw_)) (mgo : h 49 = (aI 6 go)) (mwe : h 50 = (aI 6 we)) (s0 : h 51 = (oB 4 [.int dy, .ref (51 + 1), .ref (51 + 2), .ref (51 + 3), .ref (51 + 4), .ref 40])) (svt : h (51 + 1) = (aI 20 vt)) (sti : h (51 + 2) = (aI 20 ti)) (sfa : h (51 + 3) = (aI 20 fa)) (sst : h (51 + 4) = (aI 20 st)) (a0 : h 56 = (oB 4 [.int ady, .ref (56 + 1), .ref (56 + 2), .ref (56 + 3), .ref (56 + 4), .ref 40])) (avt : h (56 + 1) = (aI 20 avt)) (ati : h (56 + 2) = (aI 20 ati)) (afa : h (56 + 3) = (aI 20 afa)) (ast : h (56 + 4) = (aI 20 ast)) (hn62 : 62 ≤ n) (hm5 : mc ≤ 5) (hrc : rc ≤ 20) (hsi : seatI st rc) (hvp : ∀ r, r < rc → 0 ≤ vt r) (hmc : ∀ m, m < mc → mn m ≤ 12 ∧ codI (chM cs mn m) (crM (chM cs mn m) (mn m) * mn m) = nI 1865)  : Ctr l K mX5_digest [.ref 40] h n (9 + 8 * rc + 6 * mc) (81 + 64 * rc + 36 * mc) (PM (some (.long (mdgM cs mn mc (mdgB wd vt ws st rc (digR wd sk vt ti fa st rc (mdgC vt fa st rc mc dy tch frs 1237)))))) h (n + (9 + 8 * rc + 6 * mc)) (nI 0) rc mc tch frs) (PX0) := by
  refine Ctr.of hst pn_X5_digest (Nat.le_of_ble_eq_true rfl) (fun X hX hr hE => ?_)
  have hX : FX l K X cX5_digest RX5 5 127 (9 + 8 * rc + 6 * mc) (81 + 64 * rc + 36 * mc) := hX
  show GW X 0 [some (.ref 40), none, none, none, none] [] h n 0 0
  have hso : ∀ r, r < rc → seatOK (st r) := fun r hr => (hsi r hr).1
  refine g_aload_n hX dX5_digest_0 rfl rfl ?_
  refine g_iconst (v := (nI 0)) hX dX5_digest_1 (by decide) ?_
  refine g_putI hX dX5_digest_2 fl_X5_52 (m0) (Nat.le_of_ble_eq_true rfl) ?_
  show GW X 5 [some (.ref 40), none, none, none, none] [] (hs h 40 (oB 5 [.int (nI 0), .int (nI rc), .ref 41, .ref 42, .ref 43, .int (nI mc), .ref 44, .ref 45, .int tch, .int frs, .ref 46, .ref 47, .int len, .ref 48, .ref 49, .ref 50, .ref 51, .ref 56])) n 0 0
  refine g_ldc2 hX dX5_digest_5 cl_X5_186 ?_
  refine g_lstore_n (i := 1) hX dX5_digest_8 rfl (Nat.le_of_ble_eq_true rfl) rfl ?_
  refine dseg1 (d0 := 1237) hst hX m0 mwd msk mws mmn mcs mco mdg mrw mgo mwe s0 svt sti sfa sst a0 avt ati afa ast hn62 hm5 hrc hsi hvp hmc _ ⟨fun j hj => (hs_ne (by omega)).trans (rfl), ⟨_, _, _, _, _, _, _, _, _, _, _, (hs_eq _ _ _), ((hs_ne (by omega)).trans (mco)), ((hs_ne (by omega)).trans (mdg)), ((hs_ne (by omega)).trans (mrw)), ((hs_ne (by omega)).trans (mgo)), ((hs_ne (by omega)).trans (mwe)), ((hs_ne (by omega)).trans (a0)), ((hs_ne (by omega)).trans (avt)), ((hs_ne (by omega)).trans (ati)), ((hs_ne (by omega)).trans (afa)), ((hs_ne (by omega)).trans (ast))⟩⟩ (fun h1 hk2 => ?_)
  refine dseg2 (d0 := (mdgC vt fa st rc mc dy tch frs 1237)) hst hX m0 mwd msk mws mmn mcs mco mdg mrw mgo mwe s0 svt sti sfa sst a0 avt ati afa ast hn62 hm5 hrc hsi hvp hmc _ hk2 (fun h3 hk4 => ?_)
  refine dseg3 (d0 := (digR wd sk vt ti fa st rc (mdgC vt fa st rc mc dy tch frs 1237))) hst hX m0 mwd msk mws mmn mcs mco mdg mrw mgo mwe s0 svt sti sfa sst a0 avt ati afa ast hn62 hm5 hrc hsi hvp hmc _ hk4 (fun h5 hk6 => ?_)
  refine dseg4 (d0 := (mdgB wd vt ws st rc (digR wd sk vt ti fa st rc (mdgC vt fa st rc mc dy tch frs 1237)))) hst hX m0 mwd msk mws mmn mcs mco mdg mrw mgo mwe s0 svt sti sfa sst a0 avt ati afa ast hn62 hm5 hrc hsi hvp hmc _ hk6 (fun h7 hk8 => ?_)
  obtain ⟨hk8K, len7, ady7, co7, dg7, rw_7, go7, we7, avt7, ati7, afa7, ast7, q40_7, q46_7, q47_7, q48_7, q49_7, q50_7, q56_7, q57_7, q58_7, q59_7, q60_7⟩ := hk8
  show GW X 260 [some (.ref 40), some (.long (mdgM cs mn mc (mdgB wd vt ws st rc (digR wd sk vt ti fa st rc (mdgC vt fa st rc mc dy tch frs 1237))))), none, none, none] [] h7 (n + (9 + 8 * rc + 6 * mc)) (9 + 8 * rc + 6 * mc) (81 + 64 * rc + 36 * mc)
  refine g_lload_n hX dX5_digest_260 rfl rfl ?_
  refine g_lreturn hX hr dX5_digest_261 (by omega) (by omega)  ?_
  exact ⟨rfl, rfl, fun j hj => (hk8K j hj).trans (rfl), ⟨_, _, _, _, _, _, _, _, _, _, _, q40_7, q46_7, q47_7, q48_7, q49_7, q50_7, q56_7, q57_7, q58_7, q59_7, q60_7⟩⟩
