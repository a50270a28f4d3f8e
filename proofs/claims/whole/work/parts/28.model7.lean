set_option maxRecDepth 20000 in
theorem kX5_methodTold {l : Launch} {K : gw_K} (hst : l.stackTraces = false) {n : Nat} {h : gw_H} {rc mc : Nat} {thr tch frs len dy ady : Int32} {mn : Nat → Nat} {wd sk ws cs co dg rw_ go we vt ti fa st avt ati afa ast : Nat → Int32} {m q : Nat} (m0 : h 40 = (oB 5 [.int thr, .int (nI rc), .ref 41, .ref 42, .ref 43, .int (nI mc), .ref 44, .ref 45, .int tch, .int frs, .ref 46, .ref 47, .int len, .ref 48, .ref 49, .ref 50, .ref 51, .ref 56])) (mwd : h 41 = (aI 20 wd)) (msk : h 42 = (aI 20 sk)) (mws : h 43 = (aI 18 ws)) (mmn : h 44 = (aI 5 (fun k => nI (mn k)))) (mcs : h 45 = (aI 60 cs)) (mco : h 46 = (aI 201 co)) (mdg : h 47 = (aI 201 dg)) (mrw : h 48 = (aI 6 rw_)) (mgo : h 49 = (aI 6 go)) (mwe : h 50 = (aI 6 we)) (s0 : h 51 = (oB 4 [.int dy, .ref (51 + 1), .ref (51 + 2), .ref (51 + 3), .ref (51 + 4), .ref 40])) (svt : h (51 + 1) = (aI 20 vt)) (sti : h (51 + 2) = (aI 20 ti)) (sfa : h (51 + 3) = (aI 20 fa)) (sst : h (51 + 4) = (aI 20 st)) (a0 : h 56 = (oB 4 [.int ady, .ref (56 + 1), .ref (56 + 2), .ref (56 + 3), .ref (56 + 4), .ref 40])) (avt : h (56 + 1) = (aI 20 avt)) (ati : h (56 + 2) = (aI 20 ati)) (afa : h (56 + 3) = (aI 20 afa)) (ast : h (56 + 4) = (aI 20 ast)) (hn62 : 62 ≤ n) (hm5 : mc ≤ 5) (hk : m < mc) (hmn : mn m ≤ 12) (hcr : codI (chM cs mn m) (crM (chM cs mn m) (mn m) * mn m) = nI 1865) (hq : q < 6) : Ctr l K mX5_methodTold [.ref 40, .int (nI m), .int (nI q)] h n 1 6 (PM (some (.int (mtI (chM cs mn m) (mn m) q))) h (n + 1) thr rc mc tch frs) (PX0) := by
  refine Ctr.of hst pn_X5_methodTold (Nat.le_of_ble_eq_true rfl) (fun X hX hr hE => ?_)
  have hX : FX l K X cX5_methodTold RX5 4 96 1 6 := hX
  show GW X 0 [some (.ref 40), some (.int (nI m)), some (.int (nI q)), none, none, none, none, none, none] [] h n 0 0
  refine g_iconst (v := (nI 0)) hX dX5_methodTold_0 (by decide) ?_
  refine g_istore_n (i := 3) hX dX5_methodTold_1 rfl (Nat.le_of_ble_eq_true rfl) rfl ?_
  refine g_aload_n hX dX5_methodTold_2 rfl rfl ?_
  refine g_iload_n hX dX5_methodTold_3 rfl rfl ?_
  refine g_iconst (v := (nI 1)) hX dX5_methodTold_4 (by decide) ?_
  refine g_callV (As := [.int (nI m), .int (nI 1)]) hX dX5_methodTold_5 cb_X5_walk ml_X5_81 im_X5_walk se_X5_walk rfl rfl (m0) ⟨_, rfl, rfl⟩ (kX5_walk hst (m0) (mmn) (mcs) (mco) (mdg) (mrw) (mgo) (mwe) (by omega) (by omega) (by omega)) (Nat.le_of_ble_eq_true rfl) (Nat.le_of_ble_eq_true rfl) (by omega) (by omega) (Nat.le_of_ble_eq_true rfl) GX.no ?_
  rintro _ h1 _ - ⟨rfl, rfl, hk2⟩
  show GW X 8 [some (.ref 40), some (.int (nI m)), some (.int (nI q)), some (.int (nI 0)), none, none, none, none, none] [] h1 n 0 0
  obtain ⟨hk2K, co1, dg1, rw_1, go1, we1, q46_1, q47_1, q48_1, q49_1, q50_1, hco1, hdg1⟩ := id hk2
  refine g_aload_n hX dX5_methodTold_8 rfl rfl ?_
  refine g_getf hX dX5_methodTold_9 fl_X5_25 ((hk2K _ (by omega)).trans (hs_eq _ _ _)) rfl ?_
  refine g_aload_n hX dX5_methodTold_12 rfl rfl ?_
  refine g_getf hX dX5_methodTold_13 fl_X5_66 ((hk2K _ (by omega)).trans (hs_eq _ _ _)) rfl ?_
  refine g_iaload hX dX5_methodTold_16 (q46_1) (1 * (mn m)) (by omega) rfl (by omega) ?_
  refine g_top (v' := .int (codI (chM cs mn m) (1 * (mn m)))) (congrArg Value.int (hco1 _ (by omega))) ?_
  refine g_istore hX dX5_methodTold_17 (Nat.le_of_ble_eq_true rfl) rfl ?_
  refine g_iconst (v := (nI 5)) hX dX5_methodTold_19 (by decide) ?_
  refine g_istore hX dX5_methodTold_20 (Nat.le_of_ble_eq_true rfl) rfl ?_
  refine g_cg (L' := [some (.ref 40), some (.int (nI m)), some (.int (nI q)), some (.int ((nI 0, (codI (chM cs mn m) (1 * mn m))).1)), some (.int ((nI 0, (codI (chM cs mn m) (1 * mn m))).2)), some (.int (nI 5 - nI 0)), none, none, none]) (h' := h1) (by rfl) (by rfl) ?_
  refine g_for (P := fun (i : Nat) (s : Int32 × Int32) => GW X 22 [some (.ref 40), some (.int (nI m)), some (.int (nI q)), some (.int s.1), some (.int s.2), some (.int (nI 5 - nI i)), none, none, none] [] h1 n 0 0) (step := fun i s => hmP i s) 6 (nI 0, (codI (chM cs mn m) (1 * mn m))) ?_ ?_
  · intro i3 ⟨as4, bs4⟩ hi3 es4 ihi3
    have ihi3 : GW X 22 [some (.ref 40), some (.int (nI m)), some (.int (nI q)), some (.int ((hmP i3 (as4, bs4)).1)), some (.int ((hmP i3 (as4, bs4)).2)), some (.int (nI 5 - nI (i3 + 1))), none, none, none] [] h1 n 0 0 := ihi3
    skip
    refine g_iload hX dX5_methodTold_22 rfl ?_
    refine g_if_lt (tgt := 58) hX dX5_methodTold_24 (by decide) (fun c5 => absurd c5 (hm_dec i3 hi3).1) (fun c5 => ?_)
    refine g_iload_n hX dX5_methodTold_27 rfl rfl ?_
    refine g_iload hX dX5_methodTold_28 rfl ?_
    refine g_bipush (v := (nI 6)) hX dX5_methodTold_30 (by decide) ?_
    refine g_irem hX dX5_methodTold_32 (by decide) ?_
    refine g_iload hX dX5_methodTold_33 rfl ?_
    refine g_icmp_ne (tgt := 42) hX dX5_methodTold_35 (by decide) (fun c6 => ?_) (fun c6 => ?_)
    · refine g_iconst (v := (nI 0)) hX dX5_methodTold_42 (by decide) ?_
      refine g_iadd hX dX5_methodTold_43 ?_
      refine g_istore_n (i := 3) hX dX5_methodTold_44 rfl (Nat.le_of_ble_eq_true rfl) rfl ?_
      refine g_iload hX dX5_methodTold_45 rfl ?_
      refine g_bipush (v := (nI 6)) hX dX5_methodTold_47 (by decide) ?_
      refine g_idiv hX dX5_methodTold_49 (by decide) ?_
      refine g_istore hX dX5_methodTold_50 (Nat.le_of_ble_eq_true rfl) rfl ?_
      refine g_iinc (v := ((nI 5 - nI i3) + -1)) hX dX5_methodTold_52 rfl rfl (by rfl) ?_
      refine g_goto (tgt := 22) hX dX5_methodTold_55 (by decide) ?_
      refine g_cv ihi3 (by rw [← (hm_dec i3 hi3).2, hmP, if_neg c6]; rfl) rfl
    · refine g_iconst (v := (nI 1)) hX dX5_methodTold_38 (by decide) ?_
      refine g_goto (tgt := 43) hX dX5_methodTold_39 (by decide) ?_
      refine g_iadd hX dX5_methodTold_43 ?_
      refine g_istore_n (i := 3) hX dX5_methodTold_44 rfl (Nat.le_of_ble_eq_true rfl) rfl ?_
      refine g_iload hX dX5_methodTold_45 rfl ?_
      refine g_bipush (v := (nI 6)) hX dX5_methodTold_47 (by decide) ?_
      refine g_idiv hX dX5_methodTold_49 (by decide) ?_
      refine g_istore hX dX5_methodTold_50 (Nat.le_of_ble_eq_true rfl) rfl ?_
      refine g_iinc (v := ((nI 5 - nI i3) + -1)) hX dX5_methodTold_52 rfl rfl (by rfl) ?_
      refine g_goto (tgt := 22) hX dX5_methodTold_55 (by decide) ?_
      refine g_cv ihi3 (by rw [← (hm_dec i3 hi3).2, hmP, if_pos c6]; rfl) rfl
  · show GW X 22 [some (.ref 40), some (.int (nI m)), some (.int (nI q)), some (.int (hmI (codI (chM cs mn m) (1 * mn m)))), some (.int ((itr (fun i s => hmP i s) 6 (nI 0, (codI (chM cs mn m) (1 * mn m)))).2)), some (.int (nI 5 - nI 6)), none, none, none] [] h1 n 0 0
    refine g_iload hX dX5_methodTold_22 rfl ?_
    refine g_if_lt (tgt := 58) hX dX5_methodTold_24 (by decide) (fun c7 => ?_) (fun c7 => absurd c7 (fun q => q (by decide)))
    refine g_aload_n hX dX5_methodTold_58 rfl rfl ?_
    refine g_iload_n hX dX5_methodTold_59 rfl rfl ?_
    have hcm_hk9 := crM_le (chM cs mn m) (mn m)
    have hcn_hk9 := Nat.mul_le_mul hcm_hk9.2 (show mn m ≤ 12 by omega)
    refine g_callV (As := [.int (nI m)]) hX dX5_methodTold_60 cb_X5_course ml_X5_141 im_X5_course se_X5_course rfl rfl ((hk2K _ (by omega)).trans (hs_eq _ _ _)) ⟨_, rfl, rfl⟩ (kX5_course hst ((hk2K _ (by omega)).trans (hs_eq _ _ _)) ((hk2K _ (by omega)).trans ((hs_ne (by omega)).trans (mmn))) ((hk2K _ (by omega)).trans ((hs_ne (by omega)).trans (mcs))) (q46_1) (q47_1) (q48_1) (q49_1) (q50_1) (by omega) (by omega) (hcr)) (Nat.le_of_ble_eq_true rfl) (Nat.le_of_ble_eq_true rfl) (by omega) (by omega) (Nat.le_of_ble_eq_true rfl) GX.no ?_
    rintro _ h8 _ - ⟨rfl, rfl, hk9⟩
    show GW X 63 [some (.ref 40), some (.int (nI m)), some (.int (nI q)), some (.int (hmI (codI (chM cs mn m) (1 * mn m)))), some (.int ((itr (fun i s => hmP i s) 6 (nI 0, (codI (chM cs mn m) (1 * mn m)))).2)), some (.int (nI 5 - nI 6)), none, none, none] [.int (nI (crM (chM cs mn m) (mn m)))] h8 n 0 0
    obtain ⟨hk9K, co8, dg8, rw_8, go8, we8, q46_8, q47_8, q48_8, q49_8, q50_8, hco8, hdg8⟩ := id hk9
    refine g_istore hX dX5_methodTold_63 (Nat.le_of_ble_eq_true rfl) rfl ?_
    refine g_iconst (v := (nI 0)) hX dX5_methodTold_65 (by decide) ?_
    refine g_istore hX dX5_methodTold_66 (Nat.le_of_ble_eq_true rfl) rfl ?_
    refine g_iconst (v := (nI 0)) hX dX5_methodTold_68 (by decide) ?_
    refine g_istore hX dX5_methodTold_69 (Nat.le_of_ble_eq_true rfl) rfl ?_
    refine g_iconst (v := (nI 0)) hX dX5_methodTold_71 (by decide) ?_
    refine g_istore hX dX5_methodTold_72 (Nat.le_of_ble_eq_true rfl) rfl ?_
    have hdd9 : (0 : Nat) = 0 := rfl
    refine g_for (P := fun (i : Nat) (s : Int32) => GW X 74 [some (.ref 40), some (.int (nI m)), some (.int (nI q)), some (.int (hmI (codI (chM cs mn m) (1 * mn m)))), some (.int ((itr (fun i s => hmP i s) 6 (nI 0, (codI (chM cs mn m) (1 * mn m)))).2)), some (.int (nI (crM (chM cs mn m) (mn m)))), some (.int s), some (.int (nI 0)), some (.int (nI i))] [] h8 n 0 0) (step := fun i s => if nwP co8 i then s + nI 1 else s + nI 0) (crM (chM cs mn m) (mn m) * (mn m) + 1) (nI 0) ?_ ?_
    · intro i10 s11 hi10 es11 ihi10
      have ihi10 : GW X 74 [some (.ref 40), some (.int (nI m)), some (.int (nI q)), some (.int (hmI (codI (chM cs mn m) (1 * mn m)))), some (.int ((itr (fun i s => hmP i s) 6 (nI 0, (codI (chM cs mn m) (1 * mn m)))).2)), some (.int (nI (crM (chM cs mn m) (mn m)))), some (.int (if nwP co8 i10 then s11 + nI 1 else s11 + nI 0)), some (.int (nI 0)), some (.int (nI (i10 + 1)))] [] h8 n 0 0 := ihi10
      refine g_iload hX dX5_methodTold_74 rfl ?_
      refine g_aload_n hX dX5_methodTold_76 rfl rfl ?_
      refine g_getf hX dX5_methodTold_77 fl_X5_66 ((hk9K _ (by omega)).trans (hs_eq _ _ _)) rfl ?_
      refine g_icmp_gtN (tgt := 108) hX dX5_methodTold_80 (by decide) (by omega) (fun c12 => absurd c12 (by omega)) (fun c12 => ?_)
      refine g_iload hX dX5_methodTold_83 rfl ?_
      refine g_aload_n hX dX5_methodTold_85 rfl rfl ?_
      refine g_iload hX dX5_methodTold_86 rfl ?_
      refine g_callV (As := [.int (nI i10)]) hX dX5_methodTold_88 cb_X5_isNew ml_X5_77 im_X5_isNew se_X5_isNew rfl rfl ((hk9K _ (by omega)).trans (hs_eq _ _ _)) ⟨_, rfl, rfl⟩ (kX5_isNew hst ((hk9K _ (by omega)).trans (hs_eq _ _ _)) (q46_8) (by omega)) (Nat.le_of_ble_eq_true rfl) (Nat.le_of_ble_eq_true rfl) (by omega) (by omega) (Nat.le_of_ble_eq_true rfl) GX.no (pq ?_)
      show GW X 91 [some (.ref 40), some (.int (nI m)), some (.int (nI q)), some (.int (hmI (codI (chM cs mn m) (1 * mn m)))), some (.int ((itr (fun i s => hmP i s) 6 (nI 0, (codI (chM cs mn m) (1 * mn m)))).2)), some (.int (nI (crM (chM cs mn m) (mn m)))), some (.int s11), some (.int (nI 0)), some (.int (nI i10))] [.int (if nwP co8 i10 then nI 1 else nI 0), .int s11] h8 n 0 0
      refine g_ifB_eq (tgt := 98) hX dX5_methodTold_91 (by decide) (fun c13 => ?_) (fun c13 => ?_)
      · refine g_iconst (v := (nI 0)) hX dX5_methodTold_98 (by decide) ?_
        refine g_iadd hX dX5_methodTold_99 ?_
        refine g_istore hX dX5_methodTold_100 (Nat.le_of_ble_eq_true rfl) rfl ?_
        refine g_iinc (v := (nI (i10 + 1))) hX dX5_methodTold_102 rfl rfl (gn_inc _ _) ?_
        refine g_goto (tgt := 74) hX dX5_methodTold_105 (by decide) ?_
        refine g_cv ihi10 (by rw [if_neg c13]; rfl) rfl
      · refine g_iconst (v := (nI 1)) hX dX5_methodTold_94 (by decide) ?_
        refine g_goto (tgt := 99) hX dX5_methodTold_95 (by decide) ?_
        refine g_iadd hX dX5_methodTold_99 ?_
        refine g_istore hX dX5_methodTold_100 (Nat.le_of_ble_eq_true rfl) rfl ?_
        refine g_iinc (v := (nI (i10 + 1))) hX dX5_methodTold_102 rfl rfl (gn_inc _ _) ?_
        refine g_goto (tgt := 74) hX dX5_methodTold_105 (by decide) ?_
        refine g_cv ihi10 (by rw [if_pos c13]; rfl) rfl
    · show GW X 74 [some (.ref 40), some (.int (nI m)), some (.int (nI q)), some (.int (hmI (codI (chM cs mn m) (1 * mn m)))), some (.int ((itr (fun i s => hmP i s) 6 (nI 0, (codI (chM cs mn m) (1 * mn m)))).2)), some (.int (nI (crM (chM cs mn m) (mn m)))), some (.int (nwI co8 (crM (chM cs mn m) (mn m) * (mn m)))), some (.int (nI 0)), some (.int (nI (crM (chM cs mn m) (mn m) * (mn m) + 1)))] [] h8 n 0 0
      refine g_iload hX dX5_methodTold_74 rfl ?_
      refine g_aload_n hX dX5_methodTold_76 rfl rfl ?_
      refine g_getf hX dX5_methodTold_77 fl_X5_66 ((hk9K _ (by omega)).trans (hs_eq _ _ _)) rfl ?_
      refine g_icmp_gtN (tgt := 108) hX dX5_methodTold_80 (by decide) (by omega) (fun c14 => ?_) (fun c14 => absurd c14 (by omega))
      refine g_cg (L' := [some (.ref 40), some (.int (nI m)), some (.int (nI q)), some (.int (hmI (codI (chM cs mn m) (1 * mn m)))), some (.int ((itr (fun i s => hmP i s) 6 (nI 0, (codI (chM cs mn m) (1 * mn m)))).2)), some (.int (nI (crM (chM cs mn m) (mn m)))), some (.int (nwI (codI (chM cs mn m)) (crM (chM cs mn m) (mn m) * (mn m)))), some (.int (nI 0)), some (.int (nI (crM (chM cs mn m) (mn m) * (mn m) + 1)))]) (by first | (rw [nwI_cg hco8]; done) | (rw [nwI_cg hco8]; rfl)) rfl ?_
      refine g_iconst (v := (nI 0)) hX dX5_methodTold_108 (by decide) ?_
      refine g_istore hX dX5_methodTold_109 (Nat.le_of_ble_eq_true rfl) rfl ?_
      refine g_for (P := fun (i : Nat) (s : Int32) => GW X 111 [some (.ref 40), some (.int (nI m)), some (.int (nI q)), some (.int (hmI (codI (chM cs mn m) (1 * mn m)))), some (.int ((itr (fun i s => hmP i s) 6 (nI 0, (codI (chM cs mn m) (1 * mn m)))).2)), some (.int (nI (crM (chM cs mn m) (mn m)))), some (.int (nwI (codI (chM cs mn m)) (crM (chM cs mn m) (mn m) * (mn m)))), some (.int s), some (.int (nI i))] [] h8 n 0 0) (step := fun i s => s + dofI (ddgI (chM cs mn m)) i (crM (chM cs mn m) (mn m) * (mn m))) 6 (nI 0) ?_ ?_
      · intro i15 s16 hi15 es16 ihi15
        have ihi15 : GW X 111 [some (.ref 40), some (.int (nI m)), some (.int (nI q)), some (.int (hmI (codI (chM cs mn m) (1 * mn m)))), some (.int ((itr (fun i s => hmP i s) 6 (nI 0, (codI (chM cs mn m) (1 * mn m)))).2)), some (.int (nI (crM (chM cs mn m) (mn m)))), some (.int (nwI (codI (chM cs mn m)) (crM (chM cs mn m) (mn m) * (mn m)))), some (.int (s16 + dofI (ddgI (chM cs mn m)) i15 (crM (chM cs mn m) (mn m) * (mn m)))), some (.int (nI (i15 + 1)))] [] h8 n 0 0 := ihi15
        refine g_iload hX dX5_methodTold_111 rfl ?_
        refine g_bipush (v := (nI 6)) hX dX5_methodTold_113 (by decide) ?_
        refine g_icmp_geN (tgt := 135) hX dX5_methodTold_115 (by decide) (by omega) (fun c17 => absurd c17 (by omega)) (fun c17 => ?_)
        refine g_iload hX dX5_methodTold_118 rfl ?_
        refine g_aload_n hX dX5_methodTold_120 rfl rfl ?_
        refine g_iload hX dX5_methodTold_121 rfl ?_
        refine g_callV (As := [.int (nI i15)]) hX dX5_methodTold_123 cb_X5_dodgesOf ml_X5_144 im_X5_dodgesOf se_X5_dodgesOf rfl rfl ((hk9K _ (by omega)).trans (hs_eq _ _ _)) ⟨_, rfl, rfl⟩ (kX5_dodgesOf hst ((hk9K _ (by omega)).trans (hs_eq _ _ _)) (q47_8) (by omega) (by omega) (hdg8)) (Nat.le_of_ble_eq_true rfl) (Nat.le_of_ble_eq_true rfl) (by omega) (by omega) (Nat.le_of_ble_eq_true rfl) GX.no (pq ?_)
        show GW X 126 [some (.ref 40), some (.int (nI m)), some (.int (nI q)), some (.int (hmI (codI (chM cs mn m) (1 * mn m)))), some (.int ((itr (fun i s => hmP i s) 6 (nI 0, (codI (chM cs mn m) (1 * mn m)))).2)), some (.int (nI (crM (chM cs mn m) (mn m)))), some (.int (nwI (codI (chM cs mn m)) (crM (chM cs mn m) (mn m) * (mn m)))), some (.int s16), some (.int (nI i15))] [.int (dofI (ddgI (chM cs mn m)) i15 (crM (chM cs mn m) (mn m) * (mn m))), .int s16] h8 n 0 0
        refine g_iadd hX dX5_methodTold_126 ?_
        refine g_istore hX dX5_methodTold_127 (Nat.le_of_ble_eq_true rfl) rfl ?_
        refine g_iinc (v := (nI (i15 + 1))) hX dX5_methodTold_129 rfl rfl (gn_inc _ _) ?_
        refine g_goto (tgt := 111) hX dX5_methodTold_132 (by decide) ?_
        refine g_cv ihi15 rfl rfl
      · refine g_iload hX dX5_methodTold_111 rfl ?_
        refine g_bipush (v := (nI 6)) hX dX5_methodTold_113 (by decide) ?_
        refine g_icmp_ge (tgt := 135) hX dX5_methodTold_115 (by decide) (fun _ => ?_) (fun c => absurd (by decide) c)
        refine g_bipush (v := (nI 6)) hX dX5_methodTold_135 (by decide) ?_
        refine g_newa_aI hX dX5_methodTold_137 w_arrI (6) rfl (by omega) (by omega) (by omega) ?_
        refine g_dup hX dX5_methodTold_139 rfl ?_
        refine g_iconst (v := (nI 0)) hX dX5_methodTold_140 (by decide) ?_
        refine g_aload_n hX dX5_methodTold_141 rfl rfl ?_
        refine g_getf hX dX5_methodTold_142 fl_X5_19 ((hs_ne (by omega)).trans ((hk9K _ (by omega)).trans (hs_eq _ _ _))) rfl ?_
        refine g_iload_n hX dX5_methodTold_145 rfl rfl ?_
        refine g_iaload hX dX5_methodTold_146 ((hs_ne (by omega)).trans ((hk9K _ (by omega)).trans ((hs_ne (by omega)).trans ((hk2K _ (by omega)).trans ((hs_ne (by omega)).trans (mmn)))))) (m) (by omega) rfl (by omega) ?_
        refine g_iastore hX dX5_methodTold_147 (hs_eq _ _ _) (0) (by omega) rfl (by omega) ?_
        refine g_cg rfl hs_hs ?_
        refine g_dup hX dX5_methodTold_148 rfl ?_
        refine g_iconst (v := (nI 1)) hX dX5_methodTold_149 (by decide) ?_
        refine g_iload hX dX5_methodTold_150 rfl ?_
        refine g_iastore hX dX5_methodTold_152 (hs_eq _ _ _) (1) (by omega) rfl (by omega) ?_
        refine g_cg rfl hs_hs ?_
        refine g_dup hX dX5_methodTold_153 rfl ?_
        refine g_iconst (v := (nI 2)) hX dX5_methodTold_154 (by decide) ?_
        refine g_iload hX dX5_methodTold_155 rfl ?_
        refine g_iastore hX dX5_methodTold_157 (hs_eq _ _ _) (2) (by omega) rfl (by omega) ?_
        refine g_cg rfl hs_hs ?_
        refine g_dup hX dX5_methodTold_158 rfl ?_
        refine g_iconst (v := (nI 3)) hX dX5_methodTold_159 (by decide) ?_
        refine g_aload_n hX dX5_methodTold_160 rfl rfl ?_
        refine g_callV (As := []) hX dX5_methodTold_161 cb_X5_untrue ml_X5_147 im_X5_untrue se_X5_untrue rfl rfl ((hs_ne (by omega)).trans ((hk9K _ (by omega)).trans (hs_eq _ _ _))) ⟨_, rfl, rfl⟩ (kX5_untrue hst ((hs_ne (by omega)).trans ((hk9K _ (by omega)).trans (hs_eq _ _ _))) ((hs_ne (by omega)).trans (q46_8)) (by omega) (hco8)) (Nat.le_of_ble_eq_true rfl) (Nat.le_of_ble_eq_true rfl) (by omega) (by omega) (Nat.le_of_ble_eq_true rfl) GX.no (pq ?_)
        show GW X 164 [some (.ref 40), some (.int (nI m)), some (.int (nI q)), some (.int (hmI (codI (chM cs mn m) (1 * mn m)))), some (.int ((itr (fun i s => hmP i s) 6 (nI 0, (codI (chM cs mn m) (1 * mn m)))).2)), some (.int (nI (crM (chM cs mn m) (mn m)))), some (.int (nwI (codI (chM cs mn m)) (crM (chM cs mn m) (mn m) * (mn m)))), some (.int (itr (fun i s => s + dofI (ddgI (chM cs mn m)) i (crM (chM cs mn m) (mn m) * (mn m))) 6 (nI 0))), some (.int (nI 6))] [.int (untI (codI (chM cs mn m)) (crM (chM cs mn m) (mn m) * (mn m))), .int (nI 3), .ref n, .ref n] (hs h8 n (aI 6 (upd (upd (upd (fun _ => 0) 0 (nI (mn m))) 1 (nI (crM (chM cs mn m) (mn m)))) 2 (nwI (codI (chM cs mn m)) (crM (chM cs mn m) (mn m) * (mn m)))))) (n + 1) 1 6
        refine g_iastore hX dX5_methodTold_164 (hs_eq _ _ _) (3) (by omega) rfl (by omega) ?_
        refine g_cg rfl hs_hs ?_
        refine g_dup hX dX5_methodTold_165 rfl ?_
        refine g_iconst (v := (nI 4)) hX dX5_methodTold_166 (by decide) ?_
        refine g_iload hX dX5_methodTold_167 rfl ?_
        refine g_iastore hX dX5_methodTold_169 (hs_eq _ _ _) (4) (by omega) rfl (by omega) ?_
        refine g_cg rfl hs_hs ?_
        refine g_dup hX dX5_methodTold_170 rfl ?_
        refine g_iconst (v := (nI 5)) hX dX5_methodTold_171 (by decide) ?_
        refine g_iload_n hX dX5_methodTold_172 rfl rfl ?_
        refine g_iastore hX dX5_methodTold_173 (hs_eq _ _ _) (5) (by omega) rfl (by omega) ?_
        refine g_cg rfl hs_hs ?_
        refine g_astore hX dX5_methodTold_174 (Nat.le_of_ble_eq_true rfl) rfl ?_
        refine g_aload hX dX5_methodTold_176 rfl ?_
        refine g_iload_n hX dX5_methodTold_178 rfl rfl ?_
        refine g_iaload hX dX5_methodTold_179 (hs_eq _ _ _) (q) (by omega) rfl (by omega) ?_
        refine g_ireturn hX hr dX5_methodTold_180 (by omega) (by omega)  ?_
        exact ⟨by rcases (show q = 0 ∨ q = 1 ∨ q = 2 ∨ q = 3 ∨ q = 4 ∨ q = 5 by omega) with rfl | rfl | rfl | rfl | rfl | rfl <;> rfl, rfl, fun j hj => (hs_ne (by omega)).trans ((hk9K j (by omega)).trans ((hs_ne (by omega)).trans ((hk2K j (by omega)).trans ((hs_ne (by omega)).trans (rfl))))), ⟨_, _, _, _, _, _, _, _, _, _, _, ((hs_ne (by omega)).trans ((hk9K _ (by omega)).trans (hs_eq _ _ _))), ((hs_ne (by omega)).trans (q46_8)), ((hs_ne (by omega)).trans (q47_8)), ((hs_ne (by omega)).trans (q48_8)), ((hs_ne (by omega)).trans (q49_8)), ((hs_ne (by omega)).trans (q50_8)), ((hs_ne (by omega)).trans ((hk9K _ (by omega)).trans ((hs_ne (by omega)).trans ((hk2K _ (by omega)).trans ((hs_ne (by omega)).trans (a0)))))), ((hs_ne (by omega)).trans ((hk9K _ (by omega)).trans ((hs_ne (by omega)).trans ((hk2K _ (by omega)).trans ((hs_ne (by omega)).trans (avt)))))), ((hs_ne (by omega)).trans ((hk9K _ (by omega)).trans ((hs_ne (by omega)).trans ((hk2K _ (by omega)).trans ((hs_ne (by omega)).trans (ati)))))), ((hs_ne (by omega)).trans ((hk9K _ (by omega)).trans ((hs_ne (by omega)).trans ((hk2K _ (by omega)).trans ((hs_ne (by omega)).trans (afa)))))), ((hs_ne (by omega)).trans ((hk9K _ (by omega)).trans ((hs_ne (by omega)).trans ((hk2K _ (by omega)).trans ((hs_ne (by omega)).trans (ast))))))⟩⟩
set_option maxRecDepth 20000 in
theorem kX5_about_m {l : Launch} {K : gw_K} (hst : l.stackTraces = false) {n : Nat} {h : gw_H} {rc mc : Nat} {thr tch frs len dy ady : Int32} {mn : Nat → Nat} {wd sk ws cs co dg rw_ go we vt ti fa st avt ati afa ast : Nat → Int32} {a b : Int32} (m0 : h 40 = (oB 5 [.int thr, .int (nI rc), .ref 41, .ref 42, .ref 43, .int (nI mc), .ref 44, .ref 45, .int tch, .int frs, .ref 46, .ref 47, .int len, .ref 48, .ref 49, .ref 50, .ref 51, .ref 56])) (mwd : h 41 = (aI 20 wd)) (msk : h 42 = (aI 20 sk)) (mws : h 43 = (aI 18 ws)) (mmn : h 44 = (aI 5 (fun k => nI (mn k)))) (mcs : h 45 = (aI 60 cs)) (mco : h 46 = (aI 201 co)) (mdg : h 47 = (aI 201 dg)) (mrw : h 48 = (aI 6 rw_)) (mgo : h 49 = (aI 6 go)) (mwe : h 50 = (aI 6 we)) (s0 : h 51 = (oB 4 [.int dy, .ref (51 + 1), .ref (51 + 2), .ref (51 + 3), .ref (51 + 4), .ref 40])) (svt : h (51 + 1) = (aI 20 vt)) (sti : h (51 + 2) = (aI 20 ti)) (sfa : h (51 + 3) = (aI 20 fa)) (sst : h (51 + 4) = (aI 20 st)) (a0 : h 56 = (oB 4 [.int ady, .ref (56 + 1), .ref (56 + 2), .ref (56 + 3), .ref (56 + 4), .ref 40])) (avt : h (56 + 1) = (aI 20 avt)) (ati : h (56 + 2) = (aI 20 ati)) (afa : h (56 + 3) = (aI 20 afa)) (ast : h (56 + 4) = (aI 20 ast)) (hn62 : 62 ≤ n) (hm5 : mc ≤ 5) (hz : a < 0 ∨ nI mc ≤ a) : Ctr l K mX5_about [.ref 40, .int a, .int b] h n 0 0 (PM (some (.int (nI 0))) h n (nI 1) rc mc tch frs) (PX0) := by
  refine Ctr.of hst pn_X5_about (Nat.le_of_ble_eq_true rfl) (fun X hX hr hE => ?_)
  have hX : FX l K X cX5_about RX5 5 124 0 0 := hX
  show GW X 0 [some (.ref 40), some (.int a), some (.int b)] [] h n 0 0
  refine g_aload_n hX dX5_about_0 rfl rfl ?_
  refine g_iconst (v := (nI 0)) hX dX5_about_1 (by decide) ?_
  refine g_putI hX dX5_about_2 fl_X5_52 (m0) (Nat.le_of_ble_eq_true rfl) ?_
  show GW X 5 [some (.ref 40), some (.int a), some (.int b)] [] (hs h 40 (oB 5 [.int (nI 0), .int (nI rc), .ref 41, .ref 42, .ref 43, .int (nI mc), .ref 44, .ref 45, .int tch, .int frs, .ref 46, .ref 47, .int len, .ref 48, .ref 49, .ref 50, .ref 51, .ref 56])) n 0 0
  refine g_aload_n hX dX5_about_5 rfl rfl ?_
  refine g_iload_n hX dX5_about_6 rfl rfl ?_
  refine g_callV (As := [.int a]) hX dX5_about_7 cb_X5_isMethod ml_X5_138 im_X5_isMethod se_X5_isMethod rfl rfl (hs_eq _ _ _) ⟨_, rfl, rfl⟩ (kX5_isMethod_x hst (hs_eq _ _ _) (hz) (by omega)) (Nat.le_of_ble_eq_true rfl) (Nat.le_of_ble_eq_true rfl) (by omega) (by omega) (Nat.le_of_ble_eq_true rfl) GX.no (pq ?_)
  show GW X 10 [some (.ref 40), some (.int a), some (.int b)] [.int (nI 0)] (hs h 40 (oB 5 [.int (nI 0), .int (nI rc), .ref 41, .ref 42, .ref 43, .int (nI mc), .ref 44, .ref 45, .int tch, .int frs, .ref 46, .ref 47, .int len, .ref 48, .ref 49, .ref 50, .ref 51, .ref 56])) n 0 0
  refine g_if_eq (tgt := 31) hX dX5_about_10 (by decide) (fun _ => ?_) (fun c => absurd (by decide) c)
  refine g_aload_n hX dX5_about_31 rfl rfl ?_
  refine g_iconst (v := (nI 1)) hX dX5_about_32 (by decide) ?_
  refine g_callV (As := [.int (nI 1)]) hX dX5_about_33 cb_X5_no ml_X5_84 im_X5_no se_X5_no rfl rfl (hs_eq _ _ _) ⟨_, rfl, rfl⟩ (kX5_no hst (hs_eq _ _ _) ) (Nat.le_of_ble_eq_true rfl) (Nat.le_of_ble_eq_true rfl) (by omega) (by omega) (Nat.le_of_ble_eq_true rfl) GX.no (pq ?_)
  show GW X 36 [some (.ref 40), some (.int a), some (.int b)] [.int (nI 0)] (hs (hs h 40 (oB 5 [.int (nI 0), .int (nI rc), .ref 41, .ref 42, .ref 43, .int (nI mc), .ref 44, .ref 45, .int tch, .int frs, .ref 46, .ref 47, .int len, .ref 48, .ref 49, .ref 50, .ref 51, .ref 56])) 40 (oB 5 [.int (nI 1), .int (nI rc), .ref 41, .ref 42, .ref 43, .int (nI mc), .ref 44, .ref 45, .int tch, .int frs, .ref 46, .ref 47, .int len, .ref 48, .ref 49, .ref 50, .ref 51, .ref 56])) n 0 0
  refine g_cg rfl hs_hs ?_
  refine g_ireturn hX hr dX5_about_36 (Nat.le_refl _) (Nat.le_refl _)  ?_
  exact ⟨rfl, rfl, fun j hj => (hs_ne (by omega)).trans (rfl), ⟨_, _, _, _, _, _, _, _, _, _, _, (hs_eq _ _ _), ((hs_ne (by omega)).trans (mco)), ((hs_ne (by omega)).trans (mdg)), ((hs_ne (by omega)).trans (mrw)), ((hs_ne (by omega)).trans (mgo)), ((hs_ne (by omega)).trans (mwe)), ((hs_ne (by omega)).trans (a0)), ((hs_ne (by omega)).trans (avt)), ((hs_ne (by omega)).trans (ati)), ((hs_ne (by omega)).trans (afa)), ((hs_ne (by omega)).trans (ast))⟩⟩
set_option maxRecDepth 20000 in
theorem kX5_about_w {l : Launch} {K : gw_K} (hst : l.stackTraces = false) {n : Nat} {h : gw_H} {rc mc : Nat} {thr tch frs len dy ady : Int32} {mn : Nat → Nat} {wd sk ws cs co dg rw_ go we vt ti fa st avt ati afa ast : Nat → Int32} {m : Nat} {b : Int32} (m0 : h 40 = (oB 5 [.int thr, .int (nI rc), .ref 41, .ref 42, .ref 43, .int (nI mc), .ref 44, .ref 45, .int tch, .int frs, .ref 46, .ref 47, .int len, .ref 48, .ref 49, .ref 50, .ref 51, .ref 56])) (mwd : h 41 = (aI 20 wd)) (msk : h 42 = (aI 20 sk)) (mws : h 43 = (aI 18 ws)) (mmn : h 44 = (aI 5 (fun k => nI (mn k)))) (mcs : h 45 = (aI 60 cs)) (mco : h 46 = (aI 201 co)) (mdg : h 47 = (aI 201 dg)) (mrw : h 48 = (aI 6 rw_)) (mgo : h 49 = (aI 6 go)) (mwe : h 50 = (aI 6 we)) (s0 : h 51 = (oB 4 [.int dy, .ref (51 + 1), .ref (51 + 2), .ref (51 + 3), .ref (51 + 4), .ref 40])) (svt : h (51 + 1) = (aI 20 vt)) (sti : h (51 + 2) = (aI 20 ti)) (sfa : h (51 + 3) = (aI 20 fa)) (sst : h (51 + 4) = (aI 20 st)) (a0 : h 56 = (oB 4 [.int ady, .ref (56 + 1), .ref (56 + 2), .ref (56 + 3), .ref (56 + 4), .ref 40])) (avt : h (56 + 1) = (aI 20 avt)) (ati : h (56 + 2) = (aI 20 ati)) (afa : h (56 + 3) = (aI 20 afa)) (ast : h (56 + 4) = (aI 20 ast)) (hn62 : 62 ≤ n) (hm5 : mc ≤ 5) (hk : m < mc) (hz : b < 0 ∨ nI 6 ≤ b) : Ctr l K mX5_about [.ref 40, .int (nI m), .int b] h n 0 0 (PM (some (.int (nI 0))) h n (nI 1) rc mc tch frs) (PX0) := by
  refine Ctr.of hst pn_X5_about (Nat.le_of_ble_eq_true rfl) (fun X hX hr hE => ?_)
  have hX : FX l K X cX5_about RX5 5 124 0 0 := hX
  show GW X 0 [some (.ref 40), some (.int (nI m)), some (.int b)] [] h n 0 0
  refine g_aload_n hX dX5_about_0 rfl rfl ?_
  refine g_iconst (v := (nI 0)) hX dX5_about_1 (by decide) ?_
  refine g_putI hX dX5_about_2 fl_X5_52 (m0) (Nat.le_of_ble_eq_true rfl) ?_
  show GW X 5 [some (.ref 40), some (.int (nI m)), some (.int b)] [] (hs h 40 (oB 5 [.int (nI 0), .int (nI rc), .ref 41, .ref 42, .ref 43, .int (nI mc), .ref 44, .ref 45, .int tch, .int frs, .ref 46, .ref 47, .int len, .ref 48, .ref 49, .ref 50, .ref 51, .ref 56])) n 0 0
  refine g_aload_n hX dX5_about_5 rfl rfl ?_
  refine g_iload_n hX dX5_about_6 rfl rfl ?_
  refine g_callV (As := [.int (nI m)]) hX dX5_about_7 cb_X5_isMethod ml_X5_138 im_X5_isMethod se_X5_isMethod rfl rfl (hs_eq _ _ _) ⟨_, rfl, rfl⟩ (kX5_isMethod hst (hs_eq _ _ _) (hk) (by omega)) (Nat.le_of_ble_eq_true rfl) (Nat.le_of_ble_eq_true rfl) (by omega) (by omega) (Nat.le_of_ble_eq_true rfl) GX.no (pq ?_)
  show GW X 10 [some (.ref 40), some (.int (nI m)), some (.int b)] [.int (nI 1)] (hs h 40 (oB 5 [.int (nI 0), .int (nI rc), .ref 41, .ref 42, .ref 43, .int (nI mc), .ref 44, .ref 45, .int tch, .int frs, .ref 46, .ref 47, .int len, .ref 48, .ref 49, .ref 50, .ref 51, .ref 56])) n 0 0
  refine g_if_eq (tgt := 31) hX dX5_about_10 (by decide) (fun c => absurd c (by decide)) (fun _ => ?_)
  refine g_iload_n hX dX5_about_13 rfl rfl ?_
  refine g_iconst (v := (nI 0)) hX dX5_about_14 (by decide) ?_
  refine g_iconst (v := (nI 5)) hX dX5_about_15 (by decide) ?_
  refine g_callS (As := [.int b, .int (nI 0), .int (nI 5)]) hX dX5_about_16 cb_X5_isIn ml_X5_59 st_X5_isIn rfl rfl (kX5_isIn_x hst (hz.imp id (gn_up (by omega)))) (Nat.le_of_ble_eq_true rfl) (Nat.le_of_ble_eq_true rfl) (by omega) (by omega) (Nat.le_of_ble_eq_true rfl) GX.no (pq ?_)
  show GW X 19 [some (.ref 40), some (.int (nI m)), some (.int b)] [.int (nI 0)] (hs h 40 (oB 5 [.int (nI 0), .int (nI rc), .ref 41, .ref 42, .ref 43, .int (nI mc), .ref 44, .ref 45, .int tch, .int frs, .ref 46, .ref 47, .int len, .ref 48, .ref 49, .ref 50, .ref 51, .ref 56])) n 0 0
  refine g_if_eq (tgt := 31) hX dX5_about_19 (by decide) (fun _ => ?_) (fun c => absurd (by decide) c)
  refine g_aload_n hX dX5_about_31 rfl rfl ?_
  refine g_iconst (v := (nI 1)) hX dX5_about_32 (by decide) ?_
  refine g_callV (As := [.int (nI 1)]) hX dX5_about_33 cb_X5_no ml_X5_84 im_X5_no se_X5_no rfl rfl (hs_eq _ _ _) ⟨_, rfl, rfl⟩ (kX5_no hst (hs_eq _ _ _) ) (Nat.le_of_ble_eq_true rfl) (Nat.le_of_ble_eq_true rfl) (by omega) (by omega) (Nat.le_of_ble_eq_true rfl) GX.no (pq ?_)
  show GW X 36 [some (.ref 40), some (.int (nI m)), some (.int b)] [.int (nI 0)] (hs (hs h 40 (oB 5 [.int (nI 0), .int (nI rc), .ref 41, .ref 42, .ref 43, .int (nI mc), .ref 44, .ref 45, .int tch, .int frs, .ref 46, .ref 47, .int len, .ref 48, .ref 49, .ref 50, .ref 51, .ref 56])) 40 (oB 5 [.int (nI 1), .int (nI rc), .ref 41, .ref 42, .ref 43, .int (nI mc), .ref 44, .ref 45, .int tch, .int frs, .ref 46, .ref 47, .int len, .ref 48, .ref 49, .ref 50, .ref 51, .ref 56])) n 0 0
  refine g_cg rfl hs_hs ?_
  refine g_ireturn hX hr dX5_about_36 (Nat.le_refl _) (Nat.le_refl _)  ?_
  exact ⟨rfl, rfl, fun j hj => (hs_ne (by omega)).trans (rfl), ⟨_, _, _, _, _, _, _, _, _, _, _, (hs_eq _ _ _), ((hs_ne (by omega)).trans (mco)), ((hs_ne (by omega)).trans (mdg)), ((hs_ne (by omega)).trans (mrw)), ((hs_ne (by omega)).trans (mgo)), ((hs_ne (by omega)).trans (mwe)), ((hs_ne (by omega)).trans (a0)), ((hs_ne (by omega)).trans (avt)), ((hs_ne (by omega)).trans (ati)), ((hs_ne (by omega)).trans (afa)), ((hs_ne (by omega)).trans (ast))⟩⟩
set_option maxRecDepth 20000 in
theorem kX5_dodges_m {l : Launch} {K : gw_K} (hst : l.stackTraces = false) {n : Nat} {h : gw_H} {rc mc : Nat} {thr tch frs len dy ady : Int32} {mn : Nat → Nat} {wd sk ws cs co dg rw_ go we vt ti fa st avt ati afa ast : Nat → Int32} {a b : Int32} (m0 : h 40 = (oB 5 [.int thr, .int (nI rc), .ref 41, .ref 42, .ref 43, .int (nI mc), .ref 44, .ref 45, .int tch, .int frs, .ref 46, .ref 47, .int len, .ref 48, .ref 49, .ref 50, .ref 51, .ref 56])) (mwd : h 41 = (aI 20 wd)) (msk : h 42 = (aI 20 sk)) (mws : h 43 = (aI 18 ws)) (mmn : h 44 = (aI 5 (fun k => nI (mn k)))) (mcs : h 45 = (aI 60 cs)) (mco : h 46 = (aI 201 co)) (mdg : h 47 = (aI 201 dg)) (mrw : h 48 = (aI 6 rw_)) (mgo : h 49 = (aI 6 go)) (mwe : h 50 = (aI 6 we)) (s0 : h 51 = (oB 4 [.int dy, .ref (51 + 1), .ref (51 + 2), .ref (51 + 3), .ref (51 + 4), .ref 40])) (svt : h (51 + 1) = (aI 20 vt)) (sti : h (51 + 2) = (aI 20 ti)) (sfa : h (51 + 3) = (aI 20 fa)) (sst : h (51 + 4) = (aI 20 st)) (a0 : h 56 = (oB 4 [.int ady, .ref (56 + 1), .ref (56 + 2), .ref (56 + 3), .ref (56 + 4), .ref 40])) (avt : h (56 + 1) = (aI 20 avt)) (ati : h (56 + 2) = (aI 20 ati)) (afa : h (56 + 3) = (aI 20 afa)) (ast : h (56 + 4) = (aI 20 ast)) (hn62 : 62 ≤ n) (hm5 : mc ≤ 5) (hz : a < 0 ∨ nI mc ≤ a) : Ctr l K mX5_dodges [.ref 40, .int a, .int b] h n 0 0 (PM (some (.int (nI 0))) h n (nI 1) rc mc tch frs) (PX0) := by
  refine Ctr.of hst pn_X5_dodges (Nat.le_of_ble_eq_true rfl) (fun X hX hr hE => ?_)
  have hX : FX l K X cX5_dodges RX5 4 96 0 0 := hX
  show GW X 0 [some (.ref 40), some (.int a), some (.int b)] [] h n 0 0
  refine g_aload_n hX dX5_dodges_0 rfl rfl ?_
  refine g_iconst (v := (nI 0)) hX dX5_dodges_1 (by decide) ?_
  refine g_putI hX dX5_dodges_2 fl_X5_52 (m0) (Nat.le_of_ble_eq_true rfl) ?_
  show GW X 5 [some (.ref 40), some (.int a), some (.int b)] [] (hs h 40 (oB 5 [.int (nI 0), .int (nI rc), .ref 41, .ref 42, .ref 43, .int (nI mc), .ref 44, .ref 45, .int tch, .int frs, .ref 46, .ref 47, .int len, .ref 48, .ref 49, .ref 50, .ref 51, .ref 56])) n 0 0
  refine g_aload_n hX dX5_dodges_5 rfl rfl ?_
  refine g_iload_n hX dX5_dodges_6 rfl rfl ?_
  refine g_callV (As := [.int a]) hX dX5_dodges_7 cb_X5_isMethod ml_X5_138 im_X5_isMethod se_X5_isMethod rfl rfl (hs_eq _ _ _) ⟨_, rfl, rfl⟩ (kX5_isMethod_x hst (hs_eq _ _ _) (hz) (by omega)) (Nat.le_of_ble_eq_true rfl) (Nat.le_of_ble_eq_true rfl) (by omega) (by omega) (Nat.le_of_ble_eq_true rfl) GX.no (pq ?_)
  show GW X 10 [some (.ref 40), some (.int a), some (.int b)] [.int (nI 0)] (hs h 40 (oB 5 [.int (nI 0), .int (nI rc), .ref 41, .ref 42, .ref 43, .int (nI mc), .ref 44, .ref 45, .int tch, .int frs, .ref 46, .ref 47, .int len, .ref 48, .ref 49, .ref 50, .ref 51, .ref 56])) n 0 0
  refine g_if_eq (tgt := 22) hX dX5_dodges_10 (by decide) (fun _ => ?_) (fun c => absurd (by decide) c)
  refine g_aload_n hX dX5_dodges_22 rfl rfl ?_
  refine g_iconst (v := (nI 1)) hX dX5_dodges_23 (by decide) ?_
  refine g_callV (As := [.int (nI 1)]) hX dX5_dodges_24 cb_X5_no ml_X5_84 im_X5_no se_X5_no rfl rfl (hs_eq _ _ _) ⟨_, rfl, rfl⟩ (kX5_no hst (hs_eq _ _ _) ) (Nat.le_of_ble_eq_true rfl) (Nat.le_of_ble_eq_true rfl) (by omega) (by omega) (Nat.le_of_ble_eq_true rfl) GX.no (pq ?_)
  show GW X 27 [some (.ref 40), some (.int a), some (.int b)] [.int (nI 0)] (hs (hs h 40 (oB 5 [.int (nI 0), .int (nI rc), .ref 41, .ref 42, .ref 43, .int (nI mc), .ref 44, .ref 45, .int tch, .int frs, .ref 46, .ref 47, .int len, .ref 48, .ref 49, .ref 50, .ref 51, .ref 56])) 40 (oB 5 [.int (nI 1), .int (nI rc), .ref 41, .ref 42, .ref 43, .int (nI mc), .ref 44, .ref 45, .int tch, .int frs, .ref 46, .ref 47, .int len, .ref 48, .ref 49, .ref 50, .ref 51, .ref 56])) n 0 0
  refine g_cg rfl hs_hs ?_
  refine g_ireturn hX hr dX5_dodges_27 (Nat.le_refl _) (Nat.le_refl _)  ?_
  exact ⟨rfl, rfl, fun j hj => (hs_ne (by omega)).trans (rfl), ⟨_, _, _, _, _, _, _, _, _, _, _, (hs_eq _ _ _), ((hs_ne (by omega)).trans (mco)), ((hs_ne (by omega)).trans (mdg)), ((hs_ne (by omega)).trans (mrw)), ((hs_ne (by omega)).trans (mgo)), ((hs_ne (by omega)).trans (mwe)), ((hs_ne (by omega)).trans (a0)), ((hs_ne (by omega)).trans (avt)), ((hs_ne (by omega)).trans (ati)), ((hs_ne (by omega)).trans (afa)), ((hs_ne (by omega)).trans (ast))⟩⟩
set_option maxRecDepth 20000 in
theorem kX5_dodges_w {l : Launch} {K : gw_K} (hst : l.stackTraces = false) {n : Nat} {h : gw_H} {rc mc : Nat} {thr tch frs len dy ady : Int32} {mn : Nat → Nat} {wd sk ws cs co dg rw_ go we vt ti fa st avt ati afa ast : Nat → Int32} {m : Nat} {b : Int32} (m0 : h 40 = (oB 5 [.int thr, .int (nI rc), .ref 41, .ref 42, .ref 43, .int (nI mc), .ref 44, .ref 45, .int tch, .int frs, .ref 46, .ref 47, .int len, .ref 48, .ref 49, .ref 50, .ref 51, .ref 56])) (mwd : h 41 = (aI 20 wd)) (msk : h 42 = (aI 20 sk)) (mws : h 43 = (aI 18 ws)) (mmn : h 44 = (aI 5 (fun k => nI (mn k)))) (mcs : h 45 = (aI 60 cs)) (mco : h 46 = (aI 201 co)) (mdg : h 47 = (aI 201 dg)) (mrw : h 48 = (aI 6 rw_)) (mgo : h 49 = (aI 6 go)) (mwe : h 50 = (aI 6 we)) (s0 : h 51 = (oB 4 [.int dy, .ref (51 + 1), .ref (51 + 2), .ref (51 + 3), .ref (51 + 4), .ref 40])) (svt : h (51 + 1) = (aI 20 vt)) (sti : h (51 + 2) = (aI 20 ti)) (sfa : h (51 + 3) = (aI 20 fa)) (sst : h (51 + 4) = (aI 20 st)) (a0 : h 56 = (oB 4 [.int ady, .ref (56 + 1), .ref (56 + 2), .ref (56 + 3), .ref (56 + 4), .ref 40])) (avt : h (56 + 1) = (aI 20 avt)) (ati : h (56 + 2) = (aI 20 ati)) (afa : h (56 + 3) = (aI 20 afa)) (ast : h (56 + 4) = (aI 20 ast)) (hn62 : 62 ≤ n) (hm5 : mc ≤ 5) (hk : m < mc) (hz : b < 0 ∨ nI 6 ≤ b) : Ctr l K mX5_dodges [.ref 40, .int (nI m), .int b] h n 0 0 (PM (some (.int (nI 0))) h n (nI 1) rc mc tch frs) (PX0) := by
  refine Ctr.of hst pn_X5_dodges (Nat.le_of_ble_eq_true rfl) (fun X hX hr hE => ?_)
  have hX : FX l K X cX5_dodges RX5 4 96 0 0 := hX
  show GW X 0 [some (.ref 40), some (.int (nI m)), some (.int b)] [] h n 0 0
  refine g_aload_n hX dX5_dodges_0 rfl rfl ?_
  refine g_iconst (v := (nI 0)) hX dX5_dodges_1 (by decide) ?_
  refine g_putI hX dX5_dodges_2 fl_X5_52 (m0) (Nat.le_of_ble_eq_true rfl) ?_
  show GW X 5 [some (.ref 40), some (.int (nI m)), some (.int b)] [] (hs h 40 (oB 5 [.int (nI 0), .int (nI rc), .ref 41, .ref 42, .ref 43, .int (nI mc), .ref 44, .ref 45, .int tch, .int frs, .ref 46, .ref 47, .int len, .ref 48, .ref 49, .ref 50, .ref 51, .ref 56])) n 0 0
  refine g_aload_n hX dX5_dodges_5 rfl rfl ?_
  refine g_iload_n hX dX5_dodges_6 rfl rfl ?_
  refine g_callV (As := [.int (nI m)]) hX dX5_dodges_7 cb_X5_isMethod ml_X5_138 im_X5_isMethod se_X5_isMethod rfl rfl (hs_eq _ _ _) ⟨_, rfl, rfl⟩ (kX5_isMethod hst (hs_eq _ _ _) (hk) (by omega)) (Nat.le_of_ble_eq_true rfl) (Nat.le_of_ble_eq_true rfl) (by omega) (by omega) (Nat.le_of_ble_eq_true rfl) GX.no (pq ?_)
  show GW X 10 [some (.ref 40), some (.int (nI m)), some (.int b)] [.int (nI 1)] (hs h 40 (oB 5 [.int (nI 0), .int (nI rc), .ref 41, .ref 42, .ref 43, .int (nI mc), .ref 44, .ref 45, .int tch, .int frs, .ref 46, .ref 47, .int len, .ref 48, .ref 49, .ref 50, .ref 51, .ref 56])) n 0 0
  refine g_if_eq (tgt := 22) hX dX5_dodges_10 (by decide) (fun c => absurd c (by decide)) (fun _ => ?_)
  refine g_iload_n hX dX5_dodges_13 rfl rfl ?_
  refine g_iconst (v := (nI 0)) hX dX5_dodges_14 (by decide) ?_
  refine g_iconst (v := (nI 5)) hX dX5_dodges_15 (by decide) ?_
  refine g_callS (As := [.int b, .int (nI 0), .int (nI 5)]) hX dX5_dodges_16 cb_X5_isIn ml_X5_59 st_X5_isIn rfl rfl (kX5_isIn_x hst (hz.imp id (gn_up (by omega)))) (Nat.le_of_ble_eq_true rfl) (Nat.le_of_ble_eq_true rfl) (by omega) (by omega) (Nat.le_of_ble_eq_true rfl) GX.no (pq ?_)
  show GW X 19 [some (.ref 40), some (.int (nI m)), some (.int b)] [.int (nI 0)] (hs h 40 (oB 5 [.int (nI 0), .int (nI rc), .ref 41, .ref 42, .ref 43, .int (nI mc), .ref 44, .ref 45, .int tch, .int frs, .ref 46, .ref 47, .int len, .ref 48, .ref 49, .ref 50, .ref 51, .ref 56])) n 0 0
  refine g_if_ne (tgt := 28) hX dX5_dodges_19 (by decide) (fun c => absurd c (by decide)) (fun _ => ?_)
  refine g_aload_n hX dX5_dodges_22 rfl rfl ?_
  refine g_iconst (v := (nI 1)) hX dX5_dodges_23 (by decide) ?_
  refine g_callV (As := [.int (nI 1)]) hX dX5_dodges_24 cb_X5_no ml_X5_84 im_X5_no se_X5_no rfl rfl (hs_eq _ _ _) ⟨_, rfl, rfl⟩ (kX5_no hst (hs_eq _ _ _) ) (Nat.le_of_ble_eq_true rfl) (Nat.le_of_ble_eq_true rfl) (by omega) (by omega) (Nat.le_of_ble_eq_true rfl) GX.no (pq ?_)
  show GW X 27 [some (.ref 40), some (.int (nI m)), some (.int b)] [.int (nI 0)] (hs (hs h 40 (oB 5 [.int (nI 0), .int (nI rc), .ref 41, .ref 42, .ref 43, .int (nI mc), .ref 44, .ref 45, .int tch, .int frs, .ref 46, .ref 47, .int len, .ref 48, .ref 49, .ref 50, .ref 51, .ref 56])) 40 (oB 5 [.int (nI 1), .int (nI rc), .ref 41, .ref 42, .ref 43, .int (nI mc), .ref 44, .ref 45, .int tch, .int frs, .ref 46, .ref 47, .int len, .ref 48, .ref 49, .ref 50, .ref 51, .ref 56])) n 0 0
  refine g_cg rfl hs_hs ?_
  refine g_ireturn hX hr dX5_dodges_27 (Nat.le_refl _) (Nat.le_refl _)  ?_
  exact ⟨rfl, rfl, fun j hj => (hs_ne (by omega)).trans (rfl), ⟨_, _, _, _, _, _, _, _, _, _, _, (hs_eq _ _ _), ((hs_ne (by omega)).trans (mco)), ((hs_ne (by omega)).trans (mdg)), ((hs_ne (by omega)).trans (mrw)), ((hs_ne (by omega)).trans (mgo)), ((hs_ne (by omega)).trans (mwe)), ((hs_ne (by omega)).trans (a0)), ((hs_ne (by omega)).trans (avt)), ((hs_ne (by omega)).trans (ati)), ((hs_ne (by omega)).trans (afa)), ((hs_ne (by omega)).trans (ast))⟩⟩
set_option maxRecDepth 20000 in
theorem kX5_about {l : Launch} {K : gw_K} (hst : l.stackTraces = false) {n : Nat} {h : gw_H} {rc mc : Nat} {thr tch frs len dy ady : Int32} {mn : Nat → Nat} {wd sk ws cs co dg rw_ go we vt ti fa st avt ati afa ast : Nat → Int32} {m q : Nat} (m0 : h 40 = (oB 5 [.int thr, .int (nI rc), .ref 41, .ref 42, .ref 43, .int (nI mc), .ref 44, .ref 45, .int tch, .int frs, .ref 46, .ref 47, .int len, .ref 48, .ref 49, .ref 50, .ref 51, .ref 56])) (mwd : h 41 = (aI 20 wd)) (msk : h 42 = (aI 20 sk)) (mws : h 43 = (aI 18 ws)) (mmn : h 44 = (aI 5 (fun k => nI (mn k)))) (mcs : h 45 = (aI 60 cs)) (mco : h 46 = (aI 201 co)) (mdg : h 47 = (aI 201 dg)) (mrw : h 48 = (aI 6 rw_)) (mgo : h 49 = (aI 6 go)) (mwe : h 50 = (aI 6 we)) (s0 : h 51 = (oB 4 [.int dy, .ref (51 + 1), .ref (51 + 2), .ref (51 + 3), .ref (51 + 4), .ref 40])) (svt : h (51 + 1) = (aI 20 vt)) (sti : h (51 + 2) = (aI 20 ti)) (sfa : h (51 + 3) = (aI 20 fa)) (sst : h (51 + 4) = (aI 20 st)) (a0 : h 56 = (oB 4 [.int ady, .ref (56 + 1), .ref (56 + 2), .ref (56 + 3), .ref (56 + 4), .ref 40])) (avt : h (56 + 1) = (aI 20 avt)) (ati : h (56 + 2) = (aI 20 ati)) (afa : h (56 + 3) = (aI 20 afa)) (ast : h (56 + 4) = (aI 20 ast)) (hn62 : 62 ≤ n) (hm5 : mc ≤ 5) (hk : m < mc) (hmn : mn m ≤ 12) (hcr : codI (chM cs mn m) (crM (chM cs mn m) (mn m) * mn m) = nI 1865) (hq : q < 6) : Ctr l K mX5_about [.ref 40, .int (nI m), .int (nI q)] h n 1 6 (PM (some (.int (mtI (chM cs mn m) (mn m) q))) h (n + 1) (nI 0) rc mc tch frs) (PX0) := by
  refine Ctr.of hst pn_X5_about (Nat.le_of_ble_eq_true rfl) (fun X hX hr hE => ?_)
  have hX : FX l K X cX5_about RX5 5 124 1 6 := hX
  show GW X 0 [some (.ref 40), some (.int (nI m)), some (.int (nI q))] [] h n 0 0
  refine g_aload_n hX dX5_about_0 rfl rfl ?_
  refine g_iconst (v := (nI 0)) hX dX5_about_1 (by decide) ?_
  refine g_putI hX dX5_about_2 fl_X5_52 (m0) (Nat.le_of_ble_eq_true rfl) ?_
  show GW X 5 [some (.ref 40), some (.int (nI m)), some (.int (nI q))] [] (hs h 40 (oB 5 [.int (nI 0), .int (nI rc), .ref 41, .ref 42, .ref 43, .int (nI mc), .ref 44, .ref 45, .int tch, .int frs, .ref 46, .ref 47, .int len, .ref 48, .ref 49, .ref 50, .ref 51, .ref 56])) n 0 0
  refine g_aload_n hX dX5_about_5 rfl rfl ?_
  refine g_iload_n hX dX5_about_6 rfl rfl ?_
  refine g_callV (As := [.int (nI m)]) hX dX5_about_7 cb_X5_isMethod ml_X5_138 im_X5_isMethod se_X5_isMethod rfl rfl (hs_eq _ _ _) ⟨_, rfl, rfl⟩ (kX5_isMethod hst (hs_eq _ _ _) (hk) (by omega)) (Nat.le_of_ble_eq_true rfl) (Nat.le_of_ble_eq_true rfl) (by omega) (by omega) (Nat.le_of_ble_eq_true rfl) GX.no (pq ?_)
  show GW X 10 [some (.ref 40), some (.int (nI m)), some (.int (nI q))] [.int (nI 1)] (hs h 40 (oB 5 [.int (nI 0), .int (nI rc), .ref 41, .ref 42, .ref 43, .int (nI mc), .ref 44, .ref 45, .int tch, .int frs, .ref 46, .ref 47, .int len, .ref 48, .ref 49, .ref 50, .ref 51, .ref 56])) n 0 0
  refine g_if_eq (tgt := 31) hX dX5_about_10 (by decide) (fun c => absurd c (by decide)) (fun _ => ?_)
  refine g_iload_n hX dX5_about_13 rfl rfl ?_
  refine g_iconst (v := (nI 0)) hX dX5_about_14 (by decide) ?_
  refine g_iconst (v := (nI 5)) hX dX5_about_15 (by decide) ?_
  refine g_callS (As := [.int (nI q), .int (nI 0), .int (nI 5)]) hX dX5_about_16 cb_X5_isIn ml_X5_59 st_X5_isIn rfl rfl (kX5_isIn hst (gn_okW (by omega) (by omega) (by omega))) (Nat.le_of_ble_eq_true rfl) (Nat.le_of_ble_eq_true rfl) (by omega) (by omega) (Nat.le_of_ble_eq_true rfl) GX.no (pq ?_)
  show GW X 19 [some (.ref 40), some (.int (nI m)), some (.int (nI q))] [.int (nI 1)] (hs h 40 (oB 5 [.int (nI 0), .int (nI rc), .ref 41, .ref 42, .ref 43, .int (nI mc), .ref 44, .ref 45, .int tch, .int frs, .ref 46, .ref 47, .int len, .ref 48, .ref 49, .ref 50, .ref 51, .ref 56])) n 0 0
  refine g_if_eq (tgt := 31) hX dX5_about_19 (by decide) (fun c => absurd c (by decide)) (fun _ => ?_)
  refine g_aload_n hX dX5_about_22 rfl rfl ?_
  refine g_iload_n hX dX5_about_23 rfl rfl ?_
  refine g_iload_n hX dX5_about_24 rfl rfl ?_
  refine g_callV (As := [.int (nI m), .int (nI q)]) hX dX5_about_25 cb_X5_methodTold ml_X5_150 im_X5_methodTold se_X5_methodTold rfl rfl (hs_eq _ _ _) ⟨_, rfl, rfl⟩ (kX5_methodTold (m := m) (q := q) hst (hs_eq _ _ _) ((hs_ne (by omega)).trans (mwd)) ((hs_ne (by omega)).trans (msk)) ((hs_ne (by omega)).trans (mws)) ((hs_ne (by omega)).trans (mmn)) ((hs_ne (by omega)).trans (mcs)) ((hs_ne (by omega)).trans (mco)) ((hs_ne (by omega)).trans (mdg)) ((hs_ne (by omega)).trans (mrw)) ((hs_ne (by omega)).trans (mgo)) ((hs_ne (by omega)).trans (mwe)) ((hs_ne (by omega)).trans (s0)) ((hs_ne (by omega)).trans (svt)) ((hs_ne (by omega)).trans (sti)) ((hs_ne (by omega)).trans (sfa)) ((hs_ne (by omega)).trans (sst)) ((hs_ne (by omega)).trans (a0)) ((hs_ne (by omega)).trans (avt)) ((hs_ne (by omega)).trans (ati)) ((hs_ne (by omega)).trans (afa)) ((hs_ne (by omega)).trans (ast)) (by omega) (by omega) (by omega) hmn hcr (by omega)) (Nat.le_of_ble_eq_true rfl) (Nat.le_of_ble_eq_true rfl) (by omega) (by omega) (Nat.le_of_ble_eq_true rfl) GX.no ?_
  rintro _ h1 _ - ⟨rfl, rfl, hk2⟩
  show GW X 28 [some (.ref 40), some (.int (nI m)), some (.int (nI q))] [.int (mtI (chM cs mn m) (mn m) q)] h1 (n + 1) 1 6
  obtain ⟨hk2K, len1, ady1, co1, dg1, rw_1, go1, we1, avt1, ati1, afa1, ast1, q40_1, q46_1, q47_1, q48_1, q49_1, q50_1, q56_1, q57_1, q58_1, q59_1, q60_1⟩ := id hk2
  refine g_goto (tgt := 36) hX dX5_about_28 (by decide) ?_
  refine g_ireturn hX hr dX5_about_36 (by omega) (by omega)  ?_
  exact ⟨rfl, rfl, fun j hj => (hk2K j (by omega)).trans ((hs_ne (by omega)).trans (rfl)), ⟨_, _, _, _, _, _, _, _, _, _, _, q40_1, q46_1, q47_1, q48_1, q49_1, q50_1, q56_1, q57_1, q58_1, q59_1, q60_1⟩⟩
set_option maxRecDepth 20000 in
theorem kX5_dodges {l : Launch} {K : gw_K} (hst : l.stackTraces = false) {n : Nat} {h : gw_H} {rc mc : Nat} {thr tch frs len dy ady : Int32} {mn : Nat → Nat} {wd sk ws cs co dg rw_ go we vt ti fa st avt ati afa ast : Nat → Int32} {m q : Nat} (m0 : h 40 = (oB 5 [.int thr, .int (nI rc), .ref 41, .ref 42, .ref 43, .int (nI mc), .ref 44, .ref 45, .int tch, .int frs, .ref 46, .ref 47, .int len, .ref 48, .ref 49, .ref 50, .ref 51, .ref 56])) (mwd : h 41 = (aI 20 wd)) (msk : h 42 = (aI 20 sk)) (mws : h 43 = (aI 18 ws)) (mmn : h 44 = (aI 5 (fun k => nI (mn k)))) (mcs : h 45 = (aI 60 cs)) (mco : h 46 = (aI 201 co)) (mdg : h 47 = (aI 201 dg)) (mrw : h 48 = (aI 6 rw_)) (mgo : h 49 = (aI 6 go)) (mwe : h 50 = (aI 6 we)) (s0 : h 51 = (oB 4 [.int dy, .ref (51 + 1), .ref (51 + 2), .ref (51 + 3), .ref (51 + 4), .ref 40])) (svt : h (51 + 1) = (aI 20 vt)) (sti : h (51 + 2) = (aI 20 ti)) (sfa : h (51 + 3) = (aI 20 fa)) (sst : h (51 + 4) = (aI 20 st)) (a0 : h 56 = (oB 4 [.int ady, .ref (56 + 1), .ref (56 + 2), .ref (56 + 3), .ref (56 + 4), .ref 40])) (avt : h (56 + 1) = (aI 20 avt)) (ati : h (56 + 2) = (aI 20 ati)) (afa : h (56 + 3) = (aI 20 afa)) (ast : h (56 + 4) = (aI 20 ast)) (hn62 : 62 ≤ n) (hm5 : mc ≤ 5) (hk : m < mc) (hmn : mn m ≤ 12) (hcr : codI (chM cs mn m) (crM (chM cs mn m) (mn m) * mn m) = nI 1865) (hq : q < 6) : Ctr l K mX5_dodges [.ref 40, .int (nI m), .int (nI q)] h n 0 0 (PM (some (.int (dofI (ddgI (chM cs mn m)) q (crM (chM cs mn m) (mn m) * mn m)))) h n (nI 0) rc mc tch frs) (PX0) := by
  refine Ctr.of hst pn_X5_dodges (Nat.le_of_ble_eq_true rfl) (fun X hX hr hE => ?_)
  have hX : FX l K X cX5_dodges RX5 4 96 0 0 := hX
  show GW X 0 [some (.ref 40), some (.int (nI m)), some (.int (nI q))] [] h n 0 0
  refine g_aload_n hX dX5_dodges_0 rfl rfl ?_
  refine g_iconst (v := (nI 0)) hX dX5_dodges_1 (by decide) ?_
  refine g_putI hX dX5_dodges_2 fl_X5_52 (m0) (Nat.le_of_ble_eq_true rfl) ?_
  show GW X 5 [some (.ref 40), some (.int (nI m)), some (.int (nI q))] [] (hs h 40 (oB 5 [.int (nI 0), .int (nI rc), .ref 41, .ref 42, .ref 43, .int (nI mc), .ref 44, .ref 45, .int tch, .int frs, .ref 46, .ref 47, .int len, .ref 48, .ref 49, .ref 50, .ref 51, .ref 56])) n 0 0
  refine g_aload_n hX dX5_dodges_5 rfl rfl ?_
  refine g_iload_n hX dX5_dodges_6 rfl rfl ?_
  refine g_callV (As := [.int (nI m)]) hX dX5_dodges_7 cb_X5_isMethod ml_X5_138 im_X5_isMethod se_X5_isMethod rfl rfl (hs_eq _ _ _) ⟨_, rfl, rfl⟩ (kX5_isMethod hst (hs_eq _ _ _) (hk) (by omega)) (Nat.le_of_ble_eq_true rfl) (Nat.le_of_ble_eq_true rfl) (by omega) (by omega) (Nat.le_of_ble_eq_true rfl) GX.no (pq ?_)
  show GW X 10 [some (.ref 40), some (.int (nI m)), some (.int (nI q))] [.int (nI 1)] (hs h 40 (oB 5 [.int (nI 0), .int (nI rc), .ref 41, .ref 42, .ref 43, .int (nI mc), .ref 44, .ref 45, .int tch, .int frs, .ref 46, .ref 47, .int len, .ref 48, .ref 49, .ref 50, .ref 51, .ref 56])) n 0 0
  refine g_if_eq (tgt := 22) hX dX5_dodges_10 (by decide) (fun c => absurd c (by decide)) (fun _ => ?_)
  refine g_iload_n hX dX5_dodges_13 rfl rfl ?_
  refine g_iconst (v := (nI 0)) hX dX5_dodges_14 (by decide) ?_
  refine g_iconst (v := (nI 5)) hX dX5_dodges_15 (by decide) ?_
  refine g_callS (As := [.int (nI q), .int (nI 0), .int (nI 5)]) hX dX5_dodges_16 cb_X5_isIn ml_X5_59 st_X5_isIn rfl rfl (kX5_isIn hst (gn_okW (by omega) (by omega) (by omega))) (Nat.le_of_ble_eq_true rfl) (Nat.le_of_ble_eq_true rfl) (by omega) (by omega) (Nat.le_of_ble_eq_true rfl) GX.no (pq ?_)
  show GW X 19 [some (.ref 40), some (.int (nI m)), some (.int (nI q))] [.int (nI 1)] (hs h 40 (oB 5 [.int (nI 0), .int (nI rc), .ref 41, .ref 42, .ref 43, .int (nI mc), .ref 44, .ref 45, .int tch, .int frs, .ref 46, .ref 47, .int len, .ref 48, .ref 49, .ref 50, .ref 51, .ref 56])) n 0 0
  refine g_if_ne (tgt := 28) hX dX5_dodges_19 (by decide) (fun _ => ?_) (fun c => absurd c (by decide))
  refine g_aload_n hX dX5_dodges_28 rfl rfl ?_
  refine g_iload_n hX dX5_dodges_29 rfl rfl ?_
  have hcm_hk2 := crM_le (chM cs mn m) (mn m)
  have hcn_hk2 := Nat.mul_le_mul hcm_hk2.2 (show mn m ≤ 12 by omega)
  refine g_callV (As := [.int (nI m)]) hX dX5_dodges_30 cb_X5_course ml_X5_141 im_X5_course se_X5_course rfl rfl (hs_eq _ _ _) ⟨_, rfl, rfl⟩ (kX5_course hst (hs_eq _ _ _) ((hs_ne (by omega)).trans (mmn)) ((hs_ne (by omega)).trans (mcs)) ((hs_ne (by omega)).trans (mco)) ((hs_ne (by omega)).trans (mdg)) ((hs_ne (by omega)).trans (mrw)) ((hs_ne (by omega)).trans (mgo)) ((hs_ne (by omega)).trans (mwe)) (by omega) (by omega) (hcr)) (Nat.le_of_ble_eq_true rfl) (Nat.le_of_ble_eq_true rfl) (by omega) (by omega) (Nat.le_of_ble_eq_true rfl) GX.no ?_
  rintro _ h1 _ - ⟨rfl, rfl, hk2⟩
  show GW X 33 [some (.ref 40), some (.int (nI m)), some (.int (nI q))] [.int (nI (crM (chM cs mn m) (mn m)))] h1 n 0 0
  obtain ⟨hk2K, co1, dg1, rw_1, go1, we1, q46_1, q47_1, q48_1, q49_1, q50_1, hco1, hdg1⟩ := id hk2
  refine g_pop hX dX5_dodges_33 rfl ?_
  refine g_aload_n hX dX5_dodges_34 rfl rfl ?_
  refine g_iload_n hX dX5_dodges_35 rfl rfl ?_
  refine g_callV (As := [.int (nI q)]) hX dX5_dodges_36 cb_X5_dodgesOf ml_X5_144 im_X5_dodgesOf se_X5_dodgesOf rfl rfl ((hk2K _ (by omega)).trans (hs_eq _ _ _)) ⟨_, rfl, rfl⟩ (kX5_dodgesOf hst ((hk2K _ (by omega)).trans (hs_eq _ _ _)) (q47_1) (by omega) (by omega) (hdg1)) (Nat.le_of_ble_eq_true rfl) (Nat.le_of_ble_eq_true rfl) (by omega) (by omega) (Nat.le_of_ble_eq_true rfl) GX.no (pq ?_)
  show GW X 39 [some (.ref 40), some (.int (nI m)), some (.int (nI q))] [.int (dofI (ddgI (chM cs mn m)) q (crM (chM cs mn m) (mn m) * (mn m)))] h1 n 0 0
  refine g_ireturn hX hr dX5_dodges_39 (Nat.le_refl _) (Nat.le_refl _)  ?_
  exact ⟨rfl, rfl, fun j hj => (hk2K j (by omega)).trans ((hs_ne (by omega)).trans ((hs_ne (by omega)).trans (rfl))), ⟨_, _, _, _, _, _, _, _, _, _, _, ((hk2K _ (by omega)).trans (hs_eq _ _ _)), q46_1, q47_1, q48_1, q49_1, q50_1, ((hk2K _ (by omega)).trans ((hs_ne (by omega)).trans ((hs_ne (by omega)).trans (a0)))), ((hk2K _ (by omega)).trans ((hs_ne (by omega)).trans ((hs_ne (by omega)).trans (avt)))), ((hk2K _ (by omega)).trans ((hs_ne (by omega)).trans ((hs_ne (by omega)).trans (ati)))), ((hk2K _ (by omega)).trans ((hs_ne (by omega)).trans ((hs_ne (by omega)).trans (afa)))), ((hk2K _ (by omega)).trans ((hs_ne (by omega)).trans ((hs_ne (by omega)).trans (ast))))⟩⟩
set_option maxRecDepth 20000 in
theorem kX5_row_m {l : Launch} {K : gw_K} (hst : l.stackTraces = false) {n : Nat} {h : gw_H} {rc mc : Nat} {thr tch frs len dy ady : Int32} {mn : Nat → Nat} {wd sk ws cs co dg rw_ go we vt ti fa st avt ati afa ast : Nat → Int32} {a b : Int32} (m0 : h 40 = (oB 5 [.int thr, .int (nI rc), .ref 41, .ref 42, .ref 43, .int (nI mc), .ref 44, .ref 45, .int tch, .int frs, .ref 46, .ref 47, .int len, .ref 48, .ref 49, .ref 50, .ref 51, .ref 56])) (mwd : h 41 = (aI 20 wd)) (msk : h 42 = (aI 20 sk)) (mws : h 43 = (aI 18 ws)) (mmn : h 44 = (aI 5 (fun k => nI (mn k)))) (mcs : h 45 = (aI 60 cs)) (mco : h 46 = (aI 201 co)) (mdg : h 47 = (aI 201 dg)) (mrw : h 48 = (aI 6 rw_)) (mgo : h 49 = (aI 6 go)) (mwe : h 50 = (aI 6 we)) (s0 : h 51 = (oB 4 [.int dy, .ref (51 + 1), .ref (51 + 2), .ref (51 + 3), .ref (51 + 4), .ref 40])) (svt : h (51 + 1) = (aI 20 vt)) (sti : h (51 + 2) = (aI 20 ti)) (sfa : h (51 + 3) = (aI 20 fa)) (sst : h (51 + 4) = (aI 20 st)) (a0 : h 56 = (oB 4 [.int ady, .ref (56 + 1), .ref (56 + 2), .ref (56 + 3), .ref (56 + 4), .ref 40])) (avt : h (56 + 1) = (aI 20 avt)) (ati : h (56 + 2) = (aI 20 ati)) (afa : h (56 + 3) = (aI 20 afa)) (ast : h (56 + 4) = (aI 20 ast)) (hn62 : 62 ≤ n) (hm5 : mc ≤ 5) (hz : a < 0 ∨ nI mc ≤ a) : Ctr l K mX5_row [.ref 40, .int a, .int b] h n 0 0 (PM (some (.int (nI 0))) h n (nI 1) rc mc tch frs) (PX0) := by
  refine Ctr.of hst pn_X5_row (Nat.le_of_ble_eq_true rfl) (fun X hX hr hE => ?_)
  have hX : FX l K X cX5_row RX5 2 52 0 0 := hX
  show GW X 0 [some (.ref 40), some (.int a), some (.int b)] [] h n 0 0
  refine g_aload_n hX dX5_row_0 rfl rfl ?_
  refine g_iconst (v := (nI 0)) hX dX5_row_1 (by decide) ?_
  refine g_putI hX dX5_row_2 fl_X5_52 (m0) (Nat.le_of_ble_eq_true rfl) ?_
  show GW X 5 [some (.ref 40), some (.int a), some (.int b)] [] (hs h 40 (oB 5 [.int (nI 0), .int (nI rc), .ref 41, .ref 42, .ref 43, .int (nI mc), .ref 44, .ref 45, .int tch, .int frs, .ref 46, .ref 47, .int len, .ref 48, .ref 49, .ref 50, .ref 51, .ref 56])) n 0 0
  refine g_aload_n hX dX5_row_5 rfl rfl ?_
  refine g_iload_n hX dX5_row_6 rfl rfl ?_
  refine g_callV (As := [.int a]) hX dX5_row_7 cb_X5_isMethod ml_X5_138 im_X5_isMethod se_X5_isMethod rfl rfl (hs_eq _ _ _) ⟨_, rfl, rfl⟩ (kX5_isMethod_x hst (hs_eq _ _ _) (hz) (by omega)) (Nat.le_of_ble_eq_true rfl) (Nat.le_of_ble_eq_true rfl) (by omega) (by omega) (Nat.le_of_ble_eq_true rfl) GX.no (pq ?_)
  show GW X 10 [some (.ref 40), some (.int a), some (.int b)] [.int (nI 0)] (hs h 40 (oB 5 [.int (nI 0), .int (nI rc), .ref 41, .ref 42, .ref 43, .int (nI mc), .ref 44, .ref 45, .int tch, .int frs, .ref 46, .ref 47, .int len, .ref 48, .ref 49, .ref 50, .ref 51, .ref 56])) n 0 0
  refine g_if_ne (tgt := 19) hX dX5_row_10 (by decide) (fun c => absurd c (by decide)) (fun _ => ?_)
  refine g_aload_n hX dX5_row_13 rfl rfl ?_
  refine g_iconst (v := (nI 1)) hX dX5_row_14 (by decide) ?_
  refine g_callV (As := [.int (nI 1)]) hX dX5_row_15 cb_X5_no ml_X5_84 im_X5_no se_X5_no rfl rfl (hs_eq _ _ _) ⟨_, rfl, rfl⟩ (kX5_no hst (hs_eq _ _ _) ) (Nat.le_of_ble_eq_true rfl) (Nat.le_of_ble_eq_true rfl) (by omega) (by omega) (Nat.le_of_ble_eq_true rfl) GX.no (pq ?_)
  show GW X 18 [some (.ref 40), some (.int a), some (.int b)] [.int (nI 0)] (hs (hs h 40 (oB 5 [.int (nI 0), .int (nI rc), .ref 41, .ref 42, .ref 43, .int (nI mc), .ref 44, .ref 45, .int tch, .int frs, .ref 46, .ref 47, .int len, .ref 48, .ref 49, .ref 50, .ref 51, .ref 56])) 40 (oB 5 [.int (nI 1), .int (nI rc), .ref 41, .ref 42, .ref 43, .int (nI mc), .ref 44, .ref 45, .int tch, .int frs, .ref 46, .ref 47, .int len, .ref 48, .ref 49, .ref 50, .ref 51, .ref 56])) n 0 0
  refine g_cg rfl hs_hs ?_
  refine g_ireturn hX hr dX5_row_18 (Nat.le_refl _) (Nat.le_refl _)  ?_
  exact ⟨rfl, rfl, fun j hj => (hs_ne (by omega)).trans (rfl), ⟨_, _, _, _, _, _, _, _, _, _, _, (hs_eq _ _ _), ((hs_ne (by omega)).trans (mco)), ((hs_ne (by omega)).trans (mdg)), ((hs_ne (by omega)).trans (mrw)), ((hs_ne (by omega)).trans (mgo)), ((hs_ne (by omega)).trans (mwe)), ((hs_ne (by omega)).trans (a0)), ((hs_ne (by omega)).trans (avt)), ((hs_ne (by omega)).trans (ati)), ((hs_ne (by omega)).trans (afa)), ((hs_ne (by omega)).trans (ast))⟩⟩
set_option maxRecDepth 20000 in
theorem kX5_row_w {l : Launch} {K : gw_K} (hst : l.stackTraces = false) {n : Nat} {h : gw_H} {rc mc : Nat} {thr tch frs len dy ady : Int32} {mn : Nat → Nat} {wd sk ws cs co dg rw_ go we vt ti fa st avt ati afa ast : Nat → Int32} {m : Nat} {b : Int32} (m0 : h 40 = (oB 5 [.int thr, .int (nI rc), .ref 41, .ref 42, .ref 43, .int (nI mc), .ref 44, .ref 45, .int tch, .int frs, .ref 46, .ref 47, .int len, .ref 48, .ref 49, .ref 50, .ref 51, .ref 56])) (mwd : h 41 = (aI 20 wd)) (msk : h 42 = (aI 20 sk)) (mws : h 43 = (aI 18 ws)) (mmn : h 44 = (aI 5 (fun k => nI (mn k)))) (mcs : h 45 = (aI 60 cs)) (mco : h 46 = (aI 201 co)) (mdg : h 47 = (aI 201 dg)) (mrw : h 48 = (aI 6 rw_)) (mgo : h 49 = (aI 6 go)) (mwe : h 50 = (aI 6 we)) (s0 : h 51 = (oB 4 [.int dy, .ref (51 + 1), .ref (51 + 2), .ref (51 + 3), .ref (51 + 4), .ref 40])) (svt : h (51 + 1) = (aI 20 vt)) (sti : h (51 + 2) = (aI 20 ti)) (sfa : h (51 + 3) = (aI 20 fa)) (sst : h (51 + 4) = (aI 20 st)) (a0 : h 56 = (oB 4 [.int ady, .ref (56 + 1), .ref (56 + 2), .ref (56 + 3), .ref (56 + 4), .ref 40])) (avt : h (56 + 1) = (aI 20 avt)) (ati : h (56 + 2) = (aI 20 ati)) (afa : h (56 + 3) = (aI 20 afa)) (ast : h (56 + 4) = (aI 20 ast)) (hn62 : 62 ≤ n) (hm5 : mc ≤ 5) (hk : m < mc) (hz : b < nI 0 ∨ nI 200 < b) : Ctr l K mX5_row [.ref 40, .int (nI m), .int b] h n 0 0 (PM (some (.int (nI 0))) h n (nI 2) rc mc tch frs) (PX0) := by
  refine Ctr.of hst pn_X5_row (Nat.le_of_ble_eq_true rfl) (fun X hX hr hE => ?_)
  have hX : FX l K X cX5_row RX5 2 52 0 0 := hX
  show GW X 0 [some (.ref 40), some (.int (nI m)), some (.int b)] [] h n 0 0
  refine g_aload_n hX dX5_row_0 rfl rfl ?_
  refine g_iconst (v := (nI 0)) hX dX5_row_1 (by decide) ?_
  refine g_putI hX dX5_row_2 fl_X5_52 (m0) (Nat.le_of_ble_eq_true rfl) ?_
  show GW X 5 [some (.ref 40), some (.int (nI m)), some (.int b)] [] (hs h 40 (oB 5 [.int (nI 0), .int (nI rc), .ref 41, .ref 42, .ref 43, .int (nI mc), .ref 44, .ref 45, .int tch, .int frs, .ref 46, .ref 47, .int len, .ref 48, .ref 49, .ref 50, .ref 51, .ref 56])) n 0 0
  refine g_aload_n hX dX5_row_5 rfl rfl ?_
  refine g_iload_n hX dX5_row_6 rfl rfl ?_
  refine g_callV (As := [.int (nI m)]) hX dX5_row_7 cb_X5_isMethod ml_X5_138 im_X5_isMethod se_X5_isMethod rfl rfl (hs_eq _ _ _) ⟨_, rfl, rfl⟩ (kX5_isMethod hst (hs_eq _ _ _) (hk) (by omega)) (Nat.le_of_ble_eq_true rfl) (Nat.le_of_ble_eq_true rfl) (by omega) (by omega) (Nat.le_of_ble_eq_true rfl) GX.no (pq ?_)
  show GW X 10 [some (.ref 40), some (.int (nI m)), some (.int b)] [.int (nI 1)] (hs h 40 (oB 5 [.int (nI 0), .int (nI rc), .ref 41, .ref 42, .ref 43, .int (nI mc), .ref 44, .ref 45, .int tch, .int frs, .ref 46, .ref 47, .int len, .ref 48, .ref 49, .ref 50, .ref 51, .ref 56])) n 0 0
  refine g_if_ne (tgt := 19) hX dX5_row_10 (by decide) (fun _ => ?_) (fun c => absurd c (by decide))
  refine g_iload_n hX dX5_row_19 rfl rfl ?_
  refine g_iconst (v := (nI 0)) hX dX5_row_20 (by decide) ?_
  refine g_sipush (v := (nI 200)) hX dX5_row_21 (by decide) ?_
  refine g_callS (As := [.int b, .int (nI 0), .int (nI 200)]) hX dX5_row_24 cb_X5_isIn ml_X5_59 st_X5_isIn rfl rfl (kX5_isIn_x hst (hz)) (Nat.le_of_ble_eq_true rfl) (Nat.le_of_ble_eq_true rfl) (by omega) (by omega) (Nat.le_of_ble_eq_true rfl) GX.no (pq ?_)
  show GW X 27 [some (.ref 40), some (.int (nI m)), some (.int b)] [.int (nI 0)] (hs h 40 (oB 5 [.int (nI 0), .int (nI rc), .ref 41, .ref 42, .ref 43, .int (nI mc), .ref 44, .ref 45, .int tch, .int frs, .ref 46, .ref 47, .int len, .ref 48, .ref 49, .ref 50, .ref 51, .ref 56])) n 0 0
  refine g_if_ne (tgt := 36) hX dX5_row_27 (by decide) (fun c => absurd c (by decide)) (fun _ => ?_)
  refine g_aload_n hX dX5_row_30 rfl rfl ?_
  refine g_iconst (v := (nI 2)) hX dX5_row_31 (by decide) ?_
  refine g_callV (As := [.int (nI 2)]) hX dX5_row_32 cb_X5_no ml_X5_84 im_X5_no se_X5_no rfl rfl (hs_eq _ _ _) ⟨_, rfl, rfl⟩ (kX5_no hst (hs_eq _ _ _) ) (Nat.le_of_ble_eq_true rfl) (Nat.le_of_ble_eq_true rfl) (by omega) (by omega) (Nat.le_of_ble_eq_true rfl) GX.no (pq ?_)
  show GW X 35 [some (.ref 40), some (.int (nI m)), some (.int b)] [.int (nI 0)] (hs (hs h 40 (oB 5 [.int (nI 0), .int (nI rc), .ref 41, .ref 42, .ref 43, .int (nI mc), .ref 44, .ref 45, .int tch, .int frs, .ref 46, .ref 47, .int len, .ref 48, .ref 49, .ref 50, .ref 51, .ref 56])) 40 (oB 5 [.int (nI 2), .int (nI rc), .ref 41, .ref 42, .ref 43, .int (nI mc), .ref 44, .ref 45, .int tch, .int frs, .ref 46, .ref 47, .int len, .ref 48, .ref 49, .ref 50, .ref 51, .ref 56])) n 0 0
  refine g_cg rfl hs_hs ?_
  refine g_ireturn hX hr dX5_row_35 (Nat.le_refl _) (Nat.le_refl _)  ?_
  exact ⟨rfl, rfl, fun j hj => (hs_ne (by omega)).trans (rfl), ⟨_, _, _, _, _, _, _, _, _, _, _, (hs_eq _ _ _), ((hs_ne (by omega)).trans (mco)), ((hs_ne (by omega)).trans (mdg)), ((hs_ne (by omega)).trans (mrw)), ((hs_ne (by omega)).trans (mgo)), ((hs_ne (by omega)).trans (mwe)), ((hs_ne (by omega)).trans (a0)), ((hs_ne (by omega)).trans (avt)), ((hs_ne (by omega)).trans (ati)), ((hs_ne (by omega)).trans (afa)), ((hs_ne (by omega)).trans (ast))⟩⟩
set_option maxRecDepth 20000 in
theorem kX5_row_e {l : Launch} {K : gw_K} (hst : l.stackTraces = false) {n : Nat} {h : gw_H} {rc mc : Nat} {thr tch frs len dy ady : Int32} {mn : Nat → Nat} {wd sk ws cs co dg rw_ go we vt ti fa st avt ati afa ast : Nat → Int32} {m d : Nat} (m0 : h 40 = (oB 5 [.int thr, .int (nI rc), .ref 41, .ref 42, .ref 43, .int (nI mc), .ref 44, .ref 45, .int tch, .int frs, .ref 46, .ref 47, .int len, .ref 48, .ref 49, .ref 50, .ref 51, .ref 56])) (mwd : h 41 = (aI 20 wd)) (msk : h 42 = (aI 20 sk)) (mws : h 43 = (aI 18 ws)) (mmn : h 44 = (aI 5 (fun k => nI (mn k)))) (mcs : h 45 = (aI 60 cs)) (mco : h 46 = (aI 201 co)) (mdg : h 47 = (aI 201 dg)) (mrw : h 48 = (aI 6 rw_)) (mgo : h 49 = (aI 6 go)) (mwe : h 50 = (aI 6 we)) (s0 : h 51 = (oB 4 [.int dy, .ref (51 + 1), .ref (51 + 2), .ref (51 + 3), .ref (51 + 4), .ref 40])) (svt : h (51 + 1) = (aI 20 vt)) (sti : h (51 + 2) = (aI 20 ti)) (sfa : h (51 + 3) = (aI 20 fa)) (sst : h (51 + 4) = (aI 20 st)) (a0 : h 56 = (oB 4 [.int ady, .ref (56 + 1), .ref (56 + 2), .ref (56 + 3), .ref (56 + 4), .ref 40])) (avt : h (56 + 1) = (aI 20 avt)) (ati : h (56 + 2) = (aI 20 ati)) (afa : h (56 + 3) = (aI 20 afa)) (ast : h (56 + 4) = (aI 20 ast)) (hn62 : 62 ≤ n) (hm5 : mc ≤ 5) (hk : m < mc) (hd : d ≤ 200) (hm0 : mn m = 0) : Ctr l K mX5_row [.ref 40, .int (nI m), .int (nI d)] h n 0 0 (PM (some (.int (nI 0))) h n (nI 3) rc mc tch frs) (PX0) := by
  refine Ctr.of hst pn_X5_row (Nat.le_of_ble_eq_true rfl) (fun X hX hr hE => ?_)
  have hX : FX l K X cX5_row RX5 2 52 0 0 := hX
  show GW X 0 [some (.ref 40), some (.int (nI m)), some (.int (nI d))] [] h n 0 0
  refine g_aload_n hX dX5_row_0 rfl rfl ?_
  refine g_iconst (v := (nI 0)) hX dX5_row_1 (by decide) ?_
  refine g_putI hX dX5_row_2 fl_X5_52 (m0) (Nat.le_of_ble_eq_true rfl) ?_
  show GW X 5 [some (.ref 40), some (.int (nI m)), some (.int (nI d))] [] (hs h 40 (oB 5 [.int (nI 0), .int (nI rc), .ref 41, .ref 42, .ref 43, .int (nI mc), .ref 44, .ref 45, .int tch, .int frs, .ref 46, .ref 47, .int len, .ref 48, .ref 49, .ref 50, .ref 51, .ref 56])) n 0 0
  refine g_aload_n hX dX5_row_5 rfl rfl ?_
  refine g_iload_n hX dX5_row_6 rfl rfl ?_
  refine g_callV (As := [.int (nI m)]) hX dX5_row_7 cb_X5_isMethod ml_X5_138 im_X5_isMethod se_X5_isMethod rfl rfl (hs_eq _ _ _) ⟨_, rfl, rfl⟩ (kX5_isMethod hst (hs_eq _ _ _) (hk) (by omega)) (Nat.le_of_ble_eq_true rfl) (Nat.le_of_ble_eq_true rfl) (by omega) (by omega) (Nat.le_of_ble_eq_true rfl) GX.no (pq ?_)
  show GW X 10 [some (.ref 40), some (.int (nI m)), some (.int (nI d))] [.int (nI 1)] (hs h 40 (oB 5 [.int (nI 0), .int (nI rc), .ref 41, .ref 42, .ref 43, .int (nI mc), .ref 44, .ref 45, .int tch, .int frs, .ref 46, .ref 47, .int len, .ref 48, .ref 49, .ref 50, .ref 51, .ref 56])) n 0 0
  refine g_if_ne (tgt := 19) hX dX5_row_10 (by decide) (fun _ => ?_) (fun c => absurd c (by decide))
  refine g_iload_n hX dX5_row_19 rfl rfl ?_
  refine g_iconst (v := (nI 0)) hX dX5_row_20 (by decide) ?_
  refine g_sipush (v := (nI 200)) hX dX5_row_21 (by decide) ?_
  refine g_callS (As := [.int (nI d), .int (nI 0), .int (nI 200)]) hX dX5_row_24 cb_X5_isIn ml_X5_59 st_X5_isIn rfl rfl (kX5_isIn hst (gn_okW (by omega) hd (by omega))) (Nat.le_of_ble_eq_true rfl) (Nat.le_of_ble_eq_true rfl) (by omega) (by omega) (Nat.le_of_ble_eq_true rfl) GX.no (pq ?_)
  show GW X 27 [some (.ref 40), some (.int (nI m)), some (.int (nI d))] [.int (nI 1)] (hs h 40 (oB 5 [.int (nI 0), .int (nI rc), .ref 41, .ref 42, .ref 43, .int (nI mc), .ref 44, .ref 45, .int tch, .int frs, .ref 46, .ref 47, .int len, .ref 48, .ref 49, .ref 50, .ref 51, .ref 56])) n 0 0
  refine g_if_ne (tgt := 36) hX dX5_row_27 (by decide) (fun _ => ?_) (fun c => absurd c (by decide))
  refine g_aload_n hX dX5_row_36 rfl rfl ?_
  refine g_getf hX dX5_row_37 fl_X5_19 (hs_eq _ _ _) rfl ?_
  refine g_iload_n hX dX5_row_40 rfl rfl ?_
  refine g_iaload hX dX5_row_41 ((hs_ne (by omega)).trans (mmn)) (m) (by omega) rfl (by omega) ?_
  refine g_if_neN (tgt := 51) hX dX5_row_42 (by decide) (by omega) (fun c1 => absurd c1 (by omega)) (fun c1 => ?_)
  refine g_aload_n hX dX5_row_45 rfl rfl ?_
  refine g_iconst (v := (nI 3)) hX dX5_row_46 (by decide) ?_
  refine g_callV (As := [.int (nI 3)]) hX dX5_row_47 cb_X5_no ml_X5_84 im_X5_no se_X5_no rfl rfl (hs_eq _ _ _) ⟨_, rfl, rfl⟩ (kX5_no hst (hs_eq _ _ _) ) (Nat.le_of_ble_eq_true rfl) (Nat.le_of_ble_eq_true rfl) (by omega) (by omega) (Nat.le_of_ble_eq_true rfl) GX.no (pq ?_)
  show GW X 50 [some (.ref 40), some (.int (nI m)), some (.int (nI d))] [.int (nI 0)] (hs (hs h 40 (oB 5 [.int (nI 0), .int (nI rc), .ref 41, .ref 42, .ref 43, .int (nI mc), .ref 44, .ref 45, .int tch, .int frs, .ref 46, .ref 47, .int len, .ref 48, .ref 49, .ref 50, .ref 51, .ref 56])) 40 (oB 5 [.int (nI 3), .int (nI rc), .ref 41, .ref 42, .ref 43, .int (nI mc), .ref 44, .ref 45, .int tch, .int frs, .ref 46, .ref 47, .int len, .ref 48, .ref 49, .ref 50, .ref 51, .ref 56])) n 0 0
  refine g_cg rfl hs_hs ?_
  refine g_ireturn hX hr dX5_row_50 (Nat.le_refl _) (Nat.le_refl _)  ?_
  exact ⟨rfl, rfl, fun j hj => (hs_ne (by omega)).trans (rfl), ⟨_, _, _, _, _, _, _, _, _, _, _, (hs_eq _ _ _), ((hs_ne (by omega)).trans (mco)), ((hs_ne (by omega)).trans (mdg)), ((hs_ne (by omega)).trans (mrw)), ((hs_ne (by omega)).trans (mgo)), ((hs_ne (by omega)).trans (mwe)), ((hs_ne (by omega)).trans (a0)), ((hs_ne (by omega)).trans (avt)), ((hs_ne (by omega)).trans (ati)), ((hs_ne (by omega)).trans (afa)), ((hs_ne (by omega)).trans (ast))⟩⟩
set_option maxRecDepth 20000 in
theorem kX5_row {l : Launch} {K : gw_K} (hst : l.stackTraces = false) {n : Nat} {h : gw_H} {rc mc : Nat} {thr tch frs len dy ady : Int32} {mn : Nat → Nat} {wd sk ws cs co dg rw_ go we vt ti fa st avt ati afa ast : Nat → Int32} {m d : Nat} (m0 : h 40 = (oB 5 [.int thr, .int (nI rc), .ref 41, .ref 42, .ref 43, .int (nI mc), .ref 44, .ref 45, .int tch, .int frs, .ref 46, .ref 47, .int len, .ref 48, .ref 49, .ref 50, .ref 51, .ref 56])) (mwd : h 41 = (aI 20 wd)) (msk : h 42 = (aI 20 sk)) (mws : h 43 = (aI 18 ws)) (mmn : h 44 = (aI 5 (fun k => nI (mn k)))) (mcs : h 45 = (aI 60 cs)) (mco : h 46 = (aI 201 co)) (mdg : h 47 = (aI 201 dg)) (mrw : h 48 = (aI 6 rw_)) (mgo : h 49 = (aI 6 go)) (mwe : h 50 = (aI 6 we)) (s0 : h 51 = (oB 4 [.int dy, .ref (51 + 1), .ref (51 + 2), .ref (51 + 3), .ref (51 + 4), .ref 40])) (svt : h (51 + 1) = (aI 20 vt)) (sti : h (51 + 2) = (aI 20 ti)) (sfa : h (51 + 3) = (aI 20 fa)) (sst : h (51 + 4) = (aI 20 st)) (a0 : h 56 = (oB 4 [.int ady, .ref (56 + 1), .ref (56 + 2), .ref (56 + 3), .ref (56 + 4), .ref 40])) (avt : h (56 + 1) = (aI 20 avt)) (ati : h (56 + 2) = (aI 20 ati)) (afa : h (56 + 3) = (aI 20 afa)) (ast : h (56 + 4) = (aI 20 ast)) (hn62 : 62 ≤ n) (hm5 : mc ≤ 5) (hk : m < mc) (hd : d ≤ 200) (hm0 : 0 < mn m) (hmn : mn m ≤ 12) : Ctr l K mX5_row [.ref 40, .int (nI m), .int (nI d)] h n 0 0 (PM (some (.int (codI (chM cs mn m) d))) h n (nI 0) rc mc tch frs) (PX0) := by
  refine Ctr.of hst pn_X5_row (Nat.le_of_ble_eq_true rfl) (fun X hX hr hE => ?_)
  have hX : FX l K X cX5_row RX5 2 52 0 0 := hX
  show GW X 0 [some (.ref 40), some (.int (nI m)), some (.int (nI d))] [] h n 0 0
  refine g_aload_n hX dX5_row_0 rfl rfl ?_
  refine g_iconst (v := (nI 0)) hX dX5_row_1 (by decide) ?_
  refine g_putI hX dX5_row_2 fl_X5_52 (m0) (Nat.le_of_ble_eq_true rfl) ?_
  show GW X 5 [some (.ref 40), some (.int (nI m)), some (.int (nI d))] [] (hs h 40 (oB 5 [.int (nI 0), .int (nI rc), .ref 41, .ref 42, .ref 43, .int (nI mc), .ref 44, .ref 45, .int tch, .int frs, .ref 46, .ref 47, .int len, .ref 48, .ref 49, .ref 50, .ref 51, .ref 56])) n 0 0
  refine g_aload_n hX dX5_row_5 rfl rfl ?_
  refine g_iload_n hX dX5_row_6 rfl rfl ?_
  refine g_callV (As := [.int (nI m)]) hX dX5_row_7 cb_X5_isMethod ml_X5_138 im_X5_isMethod se_X5_isMethod rfl rfl (hs_eq _ _ _) ⟨_, rfl, rfl⟩ (kX5_isMethod hst (hs_eq _ _ _) (hk) (by omega)) (Nat.le_of_ble_eq_true rfl) (Nat.le_of_ble_eq_true rfl) (by omega) (by omega) (Nat.le_of_ble_eq_true rfl) GX.no (pq ?_)
  show GW X 10 [some (.ref 40), some (.int (nI m)), some (.int (nI d))] [.int (nI 1)] (hs h 40 (oB 5 [.int (nI 0), .int (nI rc), .ref 41, .ref 42, .ref 43, .int (nI mc), .ref 44, .ref 45, .int tch, .int frs, .ref 46, .ref 47, .int len, .ref 48, .ref 49, .ref 50, .ref 51, .ref 56])) n 0 0
  refine g_if_ne (tgt := 19) hX dX5_row_10 (by decide) (fun _ => ?_) (fun c => absurd c (by decide))
  refine g_iload_n hX dX5_row_19 rfl rfl ?_
  refine g_iconst (v := (nI 0)) hX dX5_row_20 (by decide) ?_
  refine g_sipush (v := (nI 200)) hX dX5_row_21 (by decide) ?_
  refine g_callS (As := [.int (nI d), .int (nI 0), .int (nI 200)]) hX dX5_row_24 cb_X5_isIn ml_X5_59 st_X5_isIn rfl rfl (kX5_isIn hst (gn_okW (by omega) hd (by omega))) (Nat.le_of_ble_eq_true rfl) (Nat.le_of_ble_eq_true rfl) (by omega) (by omega) (Nat.le_of_ble_eq_true rfl) GX.no (pq ?_)
  show GW X 27 [some (.ref 40), some (.int (nI m)), some (.int (nI d))] [.int (nI 1)] (hs h 40 (oB 5 [.int (nI 0), .int (nI rc), .ref 41, .ref 42, .ref 43, .int (nI mc), .ref 44, .ref 45, .int tch, .int frs, .ref 46, .ref 47, .int len, .ref 48, .ref 49, .ref 50, .ref 51, .ref 56])) n 0 0
  refine g_if_ne (tgt := 36) hX dX5_row_27 (by decide) (fun _ => ?_) (fun c => absurd c (by decide))
  refine g_aload_n hX dX5_row_36 rfl rfl ?_
  refine g_getf hX dX5_row_37 fl_X5_19 (hs_eq _ _ _) rfl ?_
  refine g_iload_n hX dX5_row_40 rfl rfl ?_
  refine g_iaload hX dX5_row_41 ((hs_ne (by omega)).trans (mmn)) (m) (by omega) rfl (by omega) ?_
  refine g_if_neN (tgt := 51) hX dX5_row_42 (by decide) (by omega) (fun c1 => ?_) (fun c1 => absurd c1 (by omega))
  refine g_aload_n hX dX5_row_51 rfl rfl ?_
  refine g_iload_n hX dX5_row_52 rfl rfl ?_
  refine g_iload_n hX dX5_row_53 rfl rfl ?_
  refine g_callV (As := [.int (nI m), .int (nI d)]) hX dX5_row_54 cb_X5_walkChanges ml_X5_73 im_X5_walkChanges se_X5_walkChanges rfl rfl (hs_eq _ _ _) ⟨_, rfl, rfl⟩ (kX5_walkChanges hst (hs_eq _ _ _) ((hs_ne (by omega)).trans (mmn)) ((hs_ne (by omega)).trans (mcs)) ((hs_ne (by omega)).trans (mco)) ((hs_ne (by omega)).trans (mdg)) ((hs_ne (by omega)).trans (mrw)) ((hs_ne (by omega)).trans (mgo)) ((hs_ne (by omega)).trans (mwe)) (by omega) (by omega) (by omega)) (Nat.le_of_ble_eq_true rfl) (Nat.le_of_ble_eq_true rfl) (by omega) (by omega) (Nat.le_of_ble_eq_true rfl) GX.no ?_
  rintro _ h2 _ - ⟨rfl, rfl, hk3⟩
  show GW X 57 [some (.ref 40), some (.int (nI m)), some (.int (nI d))] [] h2 n 0 0
  obtain ⟨hk3K, co2, dg2, rw_2, go2, we2, q46_2, q47_2, q48_2, q49_2, q50_2, hco2, hdg2⟩ := id hk3
  refine g_aload_n hX dX5_row_57 rfl rfl ?_
  refine g_getf hX dX5_row_58 fl_X5_25 ((hk3K _ (by omega)).trans (hs_eq _ _ _)) rfl ?_
  refine g_iload_n hX dX5_row_61 rfl rfl ?_
  refine g_iaload hX dX5_row_62 (q46_2) (d) (by omega) rfl (by omega) ?_
  refine g_top (v' := .int (codI (chM cs mn m) d)) (congrArg Value.int (hco2 _ (by omega))) ?_
  refine g_ireturn hX hr dX5_row_63 (Nat.le_refl _) (Nat.le_refl _)  ?_
  exact ⟨rfl, rfl, fun j hj => (hk3K j (by omega)).trans ((hs_ne (by omega)).trans ((hs_ne (by omega)).trans (rfl))), ⟨_, _, _, _, _, _, _, _, _, _, _, ((hk3K _ (by omega)).trans (hs_eq _ _ _)), q46_2, q47_2, q48_2, q49_2, q50_2, ((hk3K _ (by omega)).trans ((hs_ne (by omega)).trans ((hs_ne (by omega)).trans (a0)))), ((hk3K _ (by omega)).trans ((hs_ne (by omega)).trans ((hs_ne (by omega)).trans (avt)))), ((hk3K _ (by omega)).trans ((hs_ne (by omega)).trans ((hs_ne (by omega)).trans (ati)))), ((hk3K _ (by omega)).trans ((hs_ne (by omega)).trans ((hs_ne (by omega)).trans (afa)))), ((hk3K _ (by omega)).trans ((hs_ne (by omega)).trans ((hs_ne (by omega)).trans (ast))))⟩⟩
set_option maxRecDepth 20000 in
theorem kX5_ring_b {l : Launch} {K : gw_K} (hst : l.stackTraces = false) {n : Nat} {h : gw_H} {rc mc : Nat} {thr tch frs len dy ady : Int32} {mn : Nat → Nat} {wd sk ws cs co dg rw_ go we vt ti fa st avt ati afa ast : Nat → Int32} {a b d : Int32} (m0 : h 40 = (oB 5 [.int thr, .int (nI rc), .ref 41, .ref 42, .ref 43, .int (nI mc), .ref 44, .ref 45, .int tch, .int frs, .ref 46, .ref 47, .int len, .ref 48, .ref 49, .ref 50, .ref 51, .ref 56])) (mwd : h 41 = (aI 20 wd)) (msk : h 42 = (aI 20 sk)) (mws : h 43 = (aI 18 ws)) (mmn : h 44 = (aI 5 (fun k => nI (mn k)))) (mcs : h 45 = (aI 60 cs)) (mco : h 46 = (aI 201 co)) (mdg : h 47 = (aI 201 dg)) (mrw : h 48 = (aI 6 rw_)) (mgo : h 49 = (aI 6 go)) (mwe : h 50 = (aI 6 we)) (s0 : h 51 = (oB 4 [.int dy, .ref (51 + 1), .ref (51 + 2), .ref (51 + 3), .ref (51 + 4), .ref 40])) (svt : h (51 + 1) = (aI 20 vt)) (sti : h (51 + 2) = (aI 20 ti)) (sfa : h (51 + 3) = (aI 20 fa)) (sst : h (51 + 4) = (aI 20 st)) (a0 : h 56 = (oB 4 [.int ady, .ref (56 + 1), .ref (56 + 2), .ref (56 + 3), .ref (56 + 4), .ref 40])) (avt : h (56 + 1) = (aI 20 avt)) (ati : h (56 + 2) = (aI 20 ati)) (afa : h (56 + 3) = (aI 20 afa)) (ast : h (56 + 4) = (aI 20 ast)) (hn62 : 62 ≤ n) (hz : a < 0 ∨ nI 3 ≤ a) : Ctr l K mX5_ring [.ref 40, .int a, .int b, .int d] h n 0 0 (PM (some (.int (nI 0))) h n (nI 1) rc mc tch frs) (PX0) := by
  refine Ctr.of hst pn_X5_ring (Nat.le_of_ble_eq_true rfl) (fun X hX hr hE => ?_)
  have hX : FX l K X cX5_ring RX5 4 102 0 0 := hX
  show GW X 0 [some (.ref 40), some (.int a), some (.int b), some (.int d), none] [] h n 0 0
  refine g_aload_n hX dX5_ring_0 rfl rfl ?_
  refine g_iconst (v := (nI 0)) hX dX5_ring_1 (by decide) ?_
  refine g_putI hX dX5_ring_2 fl_X5_52 (m0) (Nat.le_of_ble_eq_true rfl) ?_
  show GW X 5 [some (.ref 40), some (.int a), some (.int b), some (.int d), none] [] (hs h 40 (oB 5 [.int (nI 0), .int (nI rc), .ref 41, .ref 42, .ref 43, .int (nI mc), .ref 44, .ref 45, .int tch, .int frs, .ref 46, .ref 47, .int len, .ref 48, .ref 49, .ref 50, .ref 51, .ref 56])) n 0 0
  refine g_iload_n hX dX5_ring_5 rfl rfl ?_
  refine g_iconst (v := (nI 0)) hX dX5_ring_6 (by decide) ?_
  refine g_iconst (v := (nI 2)) hX dX5_ring_7 (by decide) ?_
  refine g_callS (As := [.int a, .int (nI 0), .int (nI 2)]) hX dX5_ring_8 cb_X5_isIn ml_X5_59 st_X5_isIn rfl rfl (kX5_isIn_x hst (hz.imp id (gn_up (by omega)))) (Nat.le_of_ble_eq_true rfl) (Nat.le_of_ble_eq_true rfl) (by omega) (by omega) (Nat.le_of_ble_eq_true rfl) GX.no (pq ?_)
  show GW X 11 [some (.ref 40), some (.int a), some (.int b), some (.int d), none] [.int (nI 0)] (hs h 40 (oB 5 [.int (nI 0), .int (nI rc), .ref 41, .ref 42, .ref 43, .int (nI mc), .ref 44, .ref 45, .int tch, .int frs, .ref 46, .ref 47, .int len, .ref 48, .ref 49, .ref 50, .ref 51, .ref 56])) n 0 0
  refine g_if_eq (tgt := 22) hX dX5_ring_11 (by decide) (fun _ => ?_) (fun c => absurd (by decide) c)
  refine g_aload_n hX dX5_ring_22 rfl rfl ?_
  refine g_iconst (v := (nI 1)) hX dX5_ring_23 (by decide) ?_
  refine g_callV (As := [.int (nI 1)]) hX dX5_ring_24 cb_X5_no ml_X5_84 im_X5_no se_X5_no rfl rfl (hs_eq _ _ _) ⟨_, rfl, rfl⟩ (kX5_no hst (hs_eq _ _ _) ) (Nat.le_of_ble_eq_true rfl) (Nat.le_of_ble_eq_true rfl) (by omega) (by omega) (Nat.le_of_ble_eq_true rfl) GX.no (pq ?_)
  show GW X 27 [some (.ref 40), some (.int a), some (.int b), some (.int d), none] [.int (nI 0)] (hs (hs h 40 (oB 5 [.int (nI 0), .int (nI rc), .ref 41, .ref 42, .ref 43, .int (nI mc), .ref 44, .ref 45, .int tch, .int frs, .ref 46, .ref 47, .int len, .ref 48, .ref 49, .ref 50, .ref 51, .ref 56])) 40 (oB 5 [.int (nI 1), .int (nI rc), .ref 41, .ref 42, .ref 43, .int (nI mc), .ref 44, .ref 45, .int tch, .int frs, .ref 46, .ref 47, .int len, .ref 48, .ref 49, .ref 50, .ref 51, .ref 56])) n 0 0
  refine g_cg rfl hs_hs ?_
  refine g_ireturn hX hr dX5_ring_27 (Nat.le_refl _) (Nat.le_refl _)  ?_
  exact ⟨rfl, rfl, fun j hj => (hs_ne (by omega)).trans (rfl), ⟨_, _, _, _, _, _, _, _, _, _, _, (hs_eq _ _ _), ((hs_ne (by omega)).trans (mco)), ((hs_ne (by omega)).trans (mdg)), ((hs_ne (by omega)).trans (mrw)), ((hs_ne (by omega)).trans (mgo)), ((hs_ne (by omega)).trans (mwe)), ((hs_ne (by omega)).trans (a0)), ((hs_ne (by omega)).trans (avt)), ((hs_ne (by omega)).trans (ati)), ((hs_ne (by omega)).trans (afa)), ((hs_ne (by omega)).trans (ast))⟩⟩
set_option maxRecDepth 20000 in
theorem kX5_ring_m {l : Launch} {K : gw_K} (hst : l.stackTraces = false) {n : Nat} {h : gw_H} {rc mc : Nat} {thr tch frs len dy ady : Int32} {mn : Nat → Nat} {wd sk ws cs co dg rw_ go we vt ti fa st avt ati afa ast : Nat → Int32} {b : Nat} {a d : Int32} (m0 : h 40 = (oB 5 [.int thr, .int (nI rc), .ref 41, .ref 42, .ref 43, .int (nI mc), .ref 44, .ref 45, .int tch, .int frs, .ref 46, .ref 47, .int len, .ref 48, .ref 49, .ref 50, .ref 51, .ref 56])) (mwd : h 41 = (aI 20 wd)) (msk : h 42 = (aI 20 sk)) (mws : h 43 = (aI 18 ws)) (mmn : h 44 = (aI 5 (fun k => nI (mn k)))) (mcs : h 45 = (aI 60 cs)) (mco : h 46 = (aI 201 co)) (mdg : h 47 = (aI 201 dg)) (mrw : h 48 = (aI 6 rw_)) (mgo : h 49 = (aI 6 go)) (mwe : h 50 = (aI 6 we)) (s0 : h 51 = (oB 4 [.int dy, .ref (51 + 1), .ref (51 + 2), .ref (51 + 3), .ref (51 + 4), .ref 40])) (svt : h (51 + 1) = (aI 20 vt)) (sti : h (51 + 2) = (aI 20 ti)) (sfa : h (51 + 3) = (aI 20 fa)) (sst : h (51 + 4) = (aI 20 st)) (a0 : h 56 = (oB 4 [.int ady, .ref (56 + 1), .ref (56 + 2), .ref (56 + 3), .ref (56 + 4), .ref 40])) (avt : h (56 + 1) = (aI 20 avt)) (ati : h (56 + 2) = (aI 20 ati)) (afa : h (56 + 3) = (aI 20 afa)) (ast : h (56 + 4) = (aI 20 ast)) (hn62 : 62 ≤ n) (hm5 : mc ≤ 5) (hb3 : b < 3) (hz : a < 0 ∨ nI mc ≤ a) : Ctr l K mX5_ring [.ref 40, .int (nI b), .int a, .int d] h n 0 0 (PM (some (.int (nI 0))) h n (nI 1) rc mc tch frs) (PX0) := by
  refine Ctr.of hst pn_X5_ring (Nat.le_of_ble_eq_true rfl) (fun X hX hr hE => ?_)
  have hX : FX l K X cX5_ring RX5 4 102 0 0 := hX
  show GW X 0 [some (.ref 40), some (.int (nI b)), some (.int a), some (.int d), none] [] h n 0 0
  refine g_aload_n hX dX5_ring_0 rfl rfl ?_
  refine g_iconst (v := (nI 0)) hX dX5_ring_1 (by decide) ?_
  refine g_putI hX dX5_ring_2 fl_X5_52 (m0) (Nat.le_of_ble_eq_true rfl) ?_
  show GW X 5 [some (.ref 40), some (.int (nI b)), some (.int a), some (.int d), none] [] (hs h 40 (oB 5 [.int (nI 0), .int (nI rc), .ref 41, .ref 42, .ref 43, .int (nI mc), .ref 44, .ref 45, .int tch, .int frs, .ref 46, .ref 47, .int len, .ref 48, .ref 49, .ref 50, .ref 51, .ref 56])) n 0 0
  refine g_iload_n hX dX5_ring_5 rfl rfl ?_
  refine g_iconst (v := (nI 0)) hX dX5_ring_6 (by decide) ?_
  refine g_iconst (v := (nI 2)) hX dX5_ring_7 (by decide) ?_
  refine g_callS (As := [.int (nI b), .int (nI 0), .int (nI 2)]) hX dX5_ring_8 cb_X5_isIn ml_X5_59 st_X5_isIn rfl rfl (kX5_isIn hst (gn_okW (by omega) (by omega) (by omega))) (Nat.le_of_ble_eq_true rfl) (Nat.le_of_ble_eq_true rfl) (by omega) (by omega) (Nat.le_of_ble_eq_true rfl) GX.no (pq ?_)
  show GW X 11 [some (.ref 40), some (.int (nI b)), some (.int a), some (.int d), none] [.int (nI 1)] (hs h 40 (oB 5 [.int (nI 0), .int (nI rc), .ref 41, .ref 42, .ref 43, .int (nI mc), .ref 44, .ref 45, .int tch, .int frs, .ref 46, .ref 47, .int len, .ref 48, .ref 49, .ref 50, .ref 51, .ref 56])) n 0 0
  refine g_if_eq (tgt := 22) hX dX5_ring_11 (by decide) (fun c => absurd c (by decide)) (fun _ => ?_)
  refine g_aload_n hX dX5_ring_14 rfl rfl ?_
  refine g_iload_n hX dX5_ring_15 rfl rfl ?_
  refine g_callV (As := [.int a]) hX dX5_ring_16 cb_X5_isMethod ml_X5_138 im_X5_isMethod se_X5_isMethod rfl rfl (hs_eq _ _ _) ⟨_, rfl, rfl⟩ (kX5_isMethod_x hst (hs_eq _ _ _) (hz) (by omega)) (Nat.le_of_ble_eq_true rfl) (Nat.le_of_ble_eq_true rfl) (by omega) (by omega) (Nat.le_of_ble_eq_true rfl) GX.no (pq ?_)
  show GW X 19 [some (.ref 40), some (.int (nI b)), some (.int a), some (.int d), none] [.int (nI 0)] (hs h 40 (oB 5 [.int (nI 0), .int (nI rc), .ref 41, .ref 42, .ref 43, .int (nI mc), .ref 44, .ref 45, .int tch, .int frs, .ref 46, .ref 47, .int len, .ref 48, .ref 49, .ref 50, .ref 51, .ref 56])) n 0 0
  refine g_if_ne (tgt := 28) hX dX5_ring_19 (by decide) (fun c => absurd c (by decide)) (fun _ => ?_)
  refine g_aload_n hX dX5_ring_22 rfl rfl ?_
  refine g_iconst (v := (nI 1)) hX dX5_ring_23 (by decide) ?_
  refine g_callV (As := [.int (nI 1)]) hX dX5_ring_24 cb_X5_no ml_X5_84 im_X5_no se_X5_no rfl rfl (hs_eq _ _ _) ⟨_, rfl, rfl⟩ (kX5_no hst (hs_eq _ _ _) ) (Nat.le_of_ble_eq_true rfl) (Nat.le_of_ble_eq_true rfl) (by omega) (by omega) (Nat.le_of_ble_eq_true rfl) GX.no (pq ?_)
  show GW X 27 [some (.ref 40), some (.int (nI b)), some (.int a), some (.int d), none] [.int (nI 0)] (hs (hs h 40 (oB 5 [.int (nI 0), .int (nI rc), .ref 41, .ref 42, .ref 43, .int (nI mc), .ref 44, .ref 45, .int tch, .int frs, .ref 46, .ref 47, .int len, .ref 48, .ref 49, .ref 50, .ref 51, .ref 56])) 40 (oB 5 [.int (nI 1), .int (nI rc), .ref 41, .ref 42, .ref 43, .int (nI mc), .ref 44, .ref 45, .int tch, .int frs, .ref 46, .ref 47, .int len, .ref 48, .ref 49, .ref 50, .ref 51, .ref 56])) n 0 0
  refine g_cg rfl hs_hs ?_
  refine g_ireturn hX hr dX5_ring_27 (Nat.le_refl _) (Nat.le_refl _)  ?_
  exact ⟨rfl, rfl, fun j hj => (hs_ne (by omega)).trans (rfl), ⟨_, _, _, _, _, _, _, _, _, _, _, (hs_eq _ _ _), ((hs_ne (by omega)).trans (mco)), ((hs_ne (by omega)).trans (mdg)), ((hs_ne (by omega)).trans (mrw)), ((hs_ne (by omega)).trans (mgo)), ((hs_ne (by omega)).trans (mwe)), ((hs_ne (by omega)).trans (a0)), ((hs_ne (by omega)).trans (avt)), ((hs_ne (by omega)).trans (ati)), ((hs_ne (by omega)).trans (afa)), ((hs_ne (by omega)).trans (ast))⟩⟩
set_option maxRecDepth 20000 in
theorem kX5_ring_l {l : Launch} {K : gw_K} (hst : l.stackTraces = false) {n : Nat} {h : gw_H} {rc mc : Nat} {thr tch frs len dy ady : Int32} {mn : Nat → Nat} {wd sk ws cs co dg rw_ go we vt ti fa st avt ati afa ast : Nat → Int32} {b m : Nat} {d : Int32} (m0 : h 40 = (oB 5 [.int thr, .int (nI rc), .ref 41, .ref 42, .ref 43, .int (nI mc), .ref 44, .ref 45, .int tch, .int frs, .ref 46, .ref 47, .int len, .ref 48, .ref 49, .ref 50, .ref 51, .ref 56])) (mwd : h 41 = (aI 20 wd)) (msk : h 42 = (aI 20 sk)) (mws : h 43 = (aI 18 ws)) (mmn : h 44 = (aI 5 (fun k => nI (mn k)))) (mcs : h 45 = (aI 60 cs)) (mco : h 46 = (aI 201 co)) (mdg : h 47 = (aI 201 dg)) (mrw : h 48 = (aI 6 rw_)) (mgo : h 49 = (aI 6 go)) (mwe : h 50 = (aI 6 we)) (s0 : h 51 = (oB 4 [.int dy, .ref (51 + 1), .ref (51 + 2), .ref (51 + 3), .ref (51 + 4), .ref 40])) (svt : h (51 + 1) = (aI 20 vt)) (sti : h (51 + 2) = (aI 20 ti)) (sfa : h (51 + 3) = (aI 20 fa)) (sst : h (51 + 4) = (aI 20 st)) (a0 : h 56 = (oB 4 [.int ady, .ref (56 + 1), .ref (56 + 2), .ref (56 + 3), .ref (56 + 4), .ref 40])) (avt : h (56 + 1) = (aI 20 avt)) (ati : h (56 + 2) = (aI 20 ati)) (afa : h (56 + 3) = (aI 20 afa)) (ast : h (56 + 4) = (aI 20 ast)) (hn62 : 62 ≤ n) (hm5 : mc ≤ 5) (hb3 : b < 3) (hk : m < mc) (hz : d < nI 1 ∨ nI 12 < d) : Ctr l K mX5_ring [.ref 40, .int (nI b), .int (nI m), .int d] h n 0 0 (PM (some (.int (nI 0))) h n (nI 2) rc mc tch frs) (PX0) := by
  refine Ctr.of hst pn_X5_ring (Nat.le_of_ble_eq_true rfl) (fun X hX hr hE => ?_)
  have hX : FX l K X cX5_ring RX5 4 102 0 0 := hX
  show GW X 0 [some (.ref 40), some (.int (nI b)), some (.int (nI m)), some (.int d), none] [] h n 0 0
  refine g_aload_n hX dX5_ring_0 rfl rfl ?_
  refine g_iconst (v := (nI 0)) hX dX5_ring_1 (by decide) ?_
  refine g_putI hX dX5_ring_2 fl_X5_52 (m0) (Nat.le_of_ble_eq_true rfl) ?_
  show GW X 5 [some (.ref 40), some (.int (nI b)), some (.int (nI m)), some (.int d), none] [] (hs h 40 (oB 5 [.int (nI 0), .int (nI rc), .ref 41, .ref 42, .ref 43, .int (nI mc), .ref 44, .ref 45, .int tch, .int frs, .ref 46, .ref 47, .int len, .ref 48, .ref 49, .ref 50, .ref 51, .ref 56])) n 0 0
  refine g_iload_n hX dX5_ring_5 rfl rfl ?_
  refine g_iconst (v := (nI 0)) hX dX5_ring_6 (by decide) ?_
  refine g_iconst (v := (nI 2)) hX dX5_ring_7 (by decide) ?_
  refine g_callS (As := [.int (nI b), .int (nI 0), .int (nI 2)]) hX dX5_ring_8 cb_X5_isIn ml_X5_59 st_X5_isIn rfl rfl (kX5_isIn hst (gn_okW (by omega) (by omega) (by omega))) (Nat.le_of_ble_eq_true rfl) (Nat.le_of_ble_eq_true rfl) (by omega) (by omega) (Nat.le_of_ble_eq_true rfl) GX.no (pq ?_)
  show GW X 11 [some (.ref 40), some (.int (nI b)), some (.int (nI m)), some (.int d), none] [.int (nI 1)] (hs h 40 (oB 5 [.int (nI 0), .int (nI rc), .ref 41, .ref 42, .ref 43, .int (nI mc), .ref 44, .ref 45, .int tch, .int frs, .ref 46, .ref 47, .int len, .ref 48, .ref 49, .ref 50, .ref 51, .ref 56])) n 0 0
  refine g_if_eq (tgt := 22) hX dX5_ring_11 (by decide) (fun c => absurd c (by decide)) (fun _ => ?_)
  refine g_aload_n hX dX5_ring_14 rfl rfl ?_
  refine g_iload_n hX dX5_ring_15 rfl rfl ?_
  refine g_callV (As := [.int (nI m)]) hX dX5_ring_16 cb_X5_isMethod ml_X5_138 im_X5_isMethod se_X5_isMethod rfl rfl (hs_eq _ _ _) ⟨_, rfl, rfl⟩ (kX5_isMethod hst (hs_eq _ _ _) (hk) (by omega)) (Nat.le_of_ble_eq_true rfl) (Nat.le_of_ble_eq_true rfl) (by omega) (by omega) (Nat.le_of_ble_eq_true rfl) GX.no (pq ?_)
  show GW X 19 [some (.ref 40), some (.int (nI b)), some (.int (nI m)), some (.int d), none] [.int (nI 1)] (hs h 40 (oB 5 [.int (nI 0), .int (nI rc), .ref 41, .ref 42, .ref 43, .int (nI mc), .ref 44, .ref 45, .int tch, .int frs, .ref 46, .ref 47, .int len, .ref 48, .ref 49, .ref 50, .ref 51, .ref 56])) n 0 0
  refine g_if_ne (tgt := 28) hX dX5_ring_19 (by decide) (fun _ => ?_) (fun c => absurd c (by decide))
  refine g_iload_n hX dX5_ring_28 rfl rfl ?_
  refine g_iconst (v := (nI 1)) hX dX5_ring_29 (by decide) ?_
  refine g_bipush (v := (nI 12)) hX dX5_ring_30 (by decide) ?_
  refine g_callS (As := [.int d, .int (nI 1), .int (nI 12)]) hX dX5_ring_32 cb_X5_isIn ml_X5_59 st_X5_isIn rfl rfl (kX5_isIn_x hst (hz)) (Nat.le_of_ble_eq_true rfl) (Nat.le_of_ble_eq_true rfl) (by omega) (by omega) (Nat.le_of_ble_eq_true rfl) GX.no (pq ?_)
  show GW X 35 [some (.ref 40), some (.int (nI b)), some (.int (nI m)), some (.int d), none] [.int (nI 0)] (hs h 40 (oB 5 [.int (nI 0), .int (nI rc), .ref 41, .ref 42, .ref 43, .int (nI mc), .ref 44, .ref 45, .int tch, .int frs, .ref 46, .ref 47, .int len, .ref 48, .ref 49, .ref 50, .ref 51, .ref 56])) n 0 0
  refine g_if_ne (tgt := 44) hX dX5_ring_35 (by decide) (fun c => absurd c (by decide)) (fun _ => ?_)
  refine g_aload_n hX dX5_ring_38 rfl rfl ?_
  refine g_iconst (v := (nI 2)) hX dX5_ring_39 (by decide) ?_
  refine g_callV (As := [.int (nI 2)]) hX dX5_ring_40 cb_X5_no ml_X5_84 im_X5_no se_X5_no rfl rfl (hs_eq _ _ _) ⟨_, rfl, rfl⟩ (kX5_no hst (hs_eq _ _ _) ) (Nat.le_of_ble_eq_true rfl) (Nat.le_of_ble_eq_true rfl) (by omega) (by omega) (Nat.le_of_ble_eq_true rfl) GX.no (pq ?_)
  show GW X 43 [some (.ref 40), some (.int (nI b)), some (.int (nI m)), some (.int d), none] [.int (nI 0)] (hs (hs h 40 (oB 5 [.int (nI 0), .int (nI rc), .ref 41, .ref 42, .ref 43, .int (nI mc), .ref 44, .ref 45, .int tch, .int frs, .ref 46, .ref 47, .int len, .ref 48, .ref 49, .ref 50, .ref 51, .ref 56])) 40 (oB 5 [.int (nI 2), .int (nI rc), .ref 41, .ref 42, .ref 43, .int (nI mc), .ref 44, .ref 45, .int tch, .int frs, .ref 46, .ref 47, .int len, .ref 48, .ref 49, .ref 50, .ref 51, .ref 56])) n 0 0
  refine g_cg rfl hs_hs ?_
  refine g_ireturn hX hr dX5_ring_43 (Nat.le_refl _) (Nat.le_refl _)  ?_
  exact ⟨rfl, rfl, fun j hj => (hs_ne (by omega)).trans (rfl), ⟨_, _, _, _, _, _, _, _, _, _, _, (hs_eq _ _ _), ((hs_ne (by omega)).trans (mco)), ((hs_ne (by omega)).trans (mdg)), ((hs_ne (by omega)).trans (mrw)), ((hs_ne (by omega)).trans (mgo)), ((hs_ne (by omega)).trans (mwe)), ((hs_ne (by omega)).trans (a0)), ((hs_ne (by omega)).trans (avt)), ((hs_ne (by omega)).trans (ati)), ((hs_ne (by omega)).trans (afa)), ((hs_ne (by omega)).trans (ast))⟩⟩
set_option maxRecDepth 20000 in
theorem kX5_would_b {l : Launch} {K : gw_K} (hst : l.stackTraces = false) {n : Nat} {h : gw_H} {rc mc : Nat} {thr tch frs len dy ady : Int32} {mn : Nat → Nat} {wd sk ws cs co dg rw_ go we vt ti fa st avt ati afa ast : Nat → Int32} {a b d : Int32} (m0 : h 40 = (oB 5 [.int thr, .int (nI rc), .ref 41, .ref 42, .ref 43, .int (nI mc), .ref 44, .ref 45, .int tch, .int frs, .ref 46, .ref 47, .int len, .ref 48, .ref 49, .ref 50, .ref 51, .ref 56])) (mwd : h 41 = (aI 20 wd)) (msk : h 42 = (aI 20 sk)) (mws : h 43 = (aI 18 ws)) (mmn : h 44 = (aI 5 (fun k => nI (mn k)))) (mcs : h 45 = (aI 60 cs)) (mco : h 46 = (aI 201 co)) (mdg : h 47 = (aI 201 dg)) (mrw : h 48 = (aI 6 rw_)) (mgo : h 49 = (aI 6 go)) (mwe : h 50 = (aI 6 we)) (s0 : h 51 = (oB 4 [.int dy, .ref (51 + 1), .ref (51 + 2), .ref (51 + 3), .ref (51 + 4), .ref 40])) (svt : h (51 + 1) = (aI 20 vt)) (sti : h (51 + 2) = (aI 20 ti)) (sfa : h (51 + 3) = (aI 20 fa)) (sst : h (51 + 4) = (aI 20 st)) (a0 : h 56 = (oB 4 [.int ady, .ref (56 + 1), .ref (56 + 2), .ref (56 + 3), .ref (56 + 4), .ref 40])) (avt : h (56 + 1) = (aI 20 avt)) (ati : h (56 + 2) = (aI 20 ati)) (afa : h (56 + 3) = (aI 20 afa)) (ast : h (56 + 4) = (aI 20 ast)) (hn62 : 62 ≤ n) (hz : a < 0 ∨ nI 3 ≤ a) : Ctr l K mX5_would [.ref 40, .int a, .int b, .int d] h n 0 0 (PM (some (.int (nI 0))) h n (nI 1) rc mc tch frs) (PX0) := by
  refine Ctr.of hst pn_X5_would (Nat.le_of_ble_eq_true rfl) (fun X hX hr hE => ?_)
  have hX : FX l K X cX5_would RX5 5 126 0 0 := hX
  show GW X 0 [some (.ref 40), some (.int a), some (.int b), some (.int d)] [] h n 0 0
  refine g_aload_n hX dX5_would_0 rfl rfl ?_
  refine g_iconst (v := (nI 0)) hX dX5_would_1 (by decide) ?_
  refine g_putI hX dX5_would_2 fl_X5_52 (m0) (Nat.le_of_ble_eq_true rfl) ?_
  show GW X 5 [some (.ref 40), some (.int a), some (.int b), some (.int d)] [] (hs h 40 (oB 5 [.int (nI 0), .int (nI rc), .ref 41, .ref 42, .ref 43, .int (nI mc), .ref 44, .ref 45, .int tch, .int frs, .ref 46, .ref 47, .int len, .ref 48, .ref 49, .ref 50, .ref 51, .ref 56])) n 0 0
  refine g_iload_n hX dX5_would_5 rfl rfl ?_
  refine g_iconst (v := (nI 0)) hX dX5_would_6 (by decide) ?_
  refine g_iconst (v := (nI 2)) hX dX5_would_7 (by decide) ?_
  refine g_callS (As := [.int a, .int (nI 0), .int (nI 2)]) hX dX5_would_8 cb_X5_isIn ml_X5_59 st_X5_isIn rfl rfl (kX5_isIn_x hst (hz.imp id (gn_up (by omega)))) (Nat.le_of_ble_eq_true rfl) (Nat.le_of_ble_eq_true rfl) (by omega) (by omega) (Nat.le_of_ble_eq_true rfl) GX.no (pq ?_)
  show GW X 11 [some (.ref 40), some (.int a), some (.int b), some (.int d)] [.int (nI 0)] (hs h 40 (oB 5 [.int (nI 0), .int (nI rc), .ref 41, .ref 42, .ref 43, .int (nI mc), .ref 44, .ref 45, .int tch, .int frs, .ref 46, .ref 47, .int len, .ref 48, .ref 49, .ref 50, .ref 51, .ref 56])) n 0 0
  refine g_if_eq (tgt := 22) hX dX5_would_11 (by decide) (fun _ => ?_) (fun c => absurd (by decide) c)
  refine g_aload_n hX dX5_would_22 rfl rfl ?_
  refine g_iconst (v := (nI 1)) hX dX5_would_23 (by decide) ?_
  refine g_callV (As := [.int (nI 1)]) hX dX5_would_24 cb_X5_no ml_X5_84 im_X5_no se_X5_no rfl rfl (hs_eq _ _ _) ⟨_, rfl, rfl⟩ (kX5_no hst (hs_eq _ _ _) ) (Nat.le_of_ble_eq_true rfl) (Nat.le_of_ble_eq_true rfl) (by omega) (by omega) (Nat.le_of_ble_eq_true rfl) GX.no (pq ?_)
  show GW X 27 [some (.ref 40), some (.int a), some (.int b), some (.int d)] [.int (nI 0)] (hs (hs h 40 (oB 5 [.int (nI 0), .int (nI rc), .ref 41, .ref 42, .ref 43, .int (nI mc), .ref 44, .ref 45, .int tch, .int frs, .ref 46, .ref 47, .int len, .ref 48, .ref 49, .ref 50, .ref 51, .ref 56])) 40 (oB 5 [.int (nI 1), .int (nI rc), .ref 41, .ref 42, .ref 43, .int (nI mc), .ref 44, .ref 45, .int tch, .int frs, .ref 46, .ref 47, .int len, .ref 48, .ref 49, .ref 50, .ref 51, .ref 56])) n 0 0
  refine g_cg rfl hs_hs ?_
  refine g_ireturn hX hr dX5_would_27 (Nat.le_refl _) (Nat.le_refl _)  ?_
  exact ⟨rfl, rfl, fun j hj => (hs_ne (by omega)).trans (rfl), ⟨_, _, _, _, _, _, _, _, _, _, _, (hs_eq _ _ _), ((hs_ne (by omega)).trans (mco)), ((hs_ne (by omega)).trans (mdg)), ((hs_ne (by omega)).trans (mrw)), ((hs_ne (by omega)).trans (mgo)), ((hs_ne (by omega)).trans (mwe)), ((hs_ne (by omega)).trans (a0)), ((hs_ne (by omega)).trans (avt)), ((hs_ne (by omega)).trans (ati)), ((hs_ne (by omega)).trans (afa)), ((hs_ne (by omega)).trans (ast))⟩⟩
set_option maxRecDepth 20000 in
theorem kX5_would_m {l : Launch} {K : gw_K} (hst : l.stackTraces = false) {n : Nat} {h : gw_H} {rc mc : Nat} {thr tch frs len dy ady : Int32} {mn : Nat → Nat} {wd sk ws cs co dg rw_ go we vt ti fa st avt ati afa ast : Nat → Int32} {b : Nat} {a d : Int32} (m0 : h 40 = (oB 5 [.int thr, .int (nI rc), .ref 41, .ref 42, .ref 43, .int (nI mc), .ref 44, .ref 45, .int tch, .int frs, .ref 46, .ref 47, .int len, .ref 48, .ref 49, .ref 50, .ref 51, .ref 56])) (mwd : h 41 = (aI 20 wd)) (msk : h 42 = (aI 20 sk)) (mws : h 43 = (aI 18 ws)) (mmn : h 44 = (aI 5 (fun k => nI (mn k)))) (mcs : h 45 = (aI 60 cs)) (mco : h 46 = (aI 201 co)) (mdg : h 47 = (aI 201 dg)) (mrw : h 48 = (aI 6 rw_)) (mgo : h 49 = (aI 6 go)) (mwe : h 50 = (aI 6 we)) (s0 : h 51 = (oB 4 [.int dy, .ref (51 + 1), .ref (51 + 2), .ref (51 + 3), .ref (51 + 4), .ref 40])) (svt : h (51 + 1) = (aI 20 vt)) (sti : h (51 + 2) = (aI 20 ti)) (sfa : h (51 + 3) = (aI 20 fa)) (sst : h (51 + 4) = (aI 20 st)) (a0 : h 56 = (oB 4 [.int ady, .ref (56 + 1), .ref (56 + 2), .ref (56 + 3), .ref (56 + 4), .ref 40])) (avt : h (56 + 1) = (aI 20 avt)) (ati : h (56 + 2) = (aI 20 ati)) (afa : h (56 + 3) = (aI 20 afa)) (ast : h (56 + 4) = (aI 20 ast)) (hn62 : 62 ≤ n) (hm5 : mc ≤ 5) (hb3 : b < 3) (hz : a < 0 ∨ nI mc ≤ a) : Ctr l K mX5_would [.ref 40, .int (nI b), .int a, .int d] h n 0 0 (PM (some (.int (nI 0))) h n (nI 1) rc mc tch frs) (PX0) := by
  refine Ctr.of hst pn_X5_would (Nat.le_of_ble_eq_true rfl) (fun X hX hr hE => ?_)
  have hX : FX l K X cX5_would RX5 5 126 0 0 := hX
  show GW X 0 [some (.ref 40), some (.int (nI b)), some (.int a), some (.int d)] [] h n 0 0
  refine g_aload_n hX dX5_would_0 rfl rfl ?_
  refine g_iconst (v := (nI 0)) hX dX5_would_1 (by decide) ?_
  refine g_putI hX dX5_would_2 fl_X5_52 (m0) (Nat.le_of_ble_eq_true rfl) ?_
  show GW X 5 [some (.ref 40), some (.int (nI b)), some (.int a), some (.int d)] [] (hs h 40 (oB 5 [.int (nI 0), .int (nI rc), .ref 41, .ref 42, .ref 43, .int (nI mc), .ref 44, .ref 45, .int tch, .int frs, .ref 46, .ref 47, .int len, .ref 48, .ref 49, .ref 50, .ref 51, .ref 56])) n 0 0
  refine g_iload_n hX dX5_would_5 rfl rfl ?_
  refine g_iconst (v := (nI 0)) hX dX5_would_6 (by decide) ?_
  refine g_iconst (v := (nI 2)) hX dX5_would_7 (by decide) ?_
  refine g_callS (As := [.int (nI b), .int (nI 0), .int (nI 2)]) hX dX5_would_8 cb_X5_isIn ml_X5_59 st_X5_isIn rfl rfl (kX5_isIn hst (gn_okW (by omega) (by omega) (by omega))) (Nat.le_of_ble_eq_true rfl) (Nat.le_of_ble_eq_true rfl) (by omega) (by omega) (Nat.le_of_ble_eq_true rfl) GX.no (pq ?_)
  show GW X 11 [some (.ref 40), some (.int (nI b)), some (.int a), some (.int d)] [.int (nI 1)] (hs h 40 (oB 5 [.int (nI 0), .int (nI rc), .ref 41, .ref 42, .ref 43, .int (nI mc), .ref 44, .ref 45, .int tch, .int frs, .ref 46, .ref 47, .int len, .ref 48, .ref 49, .ref 50, .ref 51, .ref 56])) n 0 0
  refine g_if_eq (tgt := 22) hX dX5_would_11 (by decide) (fun c => absurd c (by decide)) (fun _ => ?_)
  refine g_aload_n hX dX5_would_14 rfl rfl ?_
  refine g_iload_n hX dX5_would_15 rfl rfl ?_
  refine g_callV (As := [.int a]) hX dX5_would_16 cb_X5_isMethod ml_X5_138 im_X5_isMethod se_X5_isMethod rfl rfl (hs_eq _ _ _) ⟨_, rfl, rfl⟩ (kX5_isMethod_x hst (hs_eq _ _ _) (hz) (by omega)) (Nat.le_of_ble_eq_true rfl) (Nat.le_of_ble_eq_true rfl) (by omega) (by omega) (Nat.le_of_ble_eq_true rfl) GX.no (pq ?_)
  show GW X 19 [some (.ref 40), some (.int (nI b)), some (.int a), some (.int d)] [.int (nI 0)] (hs h 40 (oB 5 [.int (nI 0), .int (nI rc), .ref 41, .ref 42, .ref 43, .int (nI mc), .ref 44, .ref 45, .int tch, .int frs, .ref 46, .ref 47, .int len, .ref 48, .ref 49, .ref 50, .ref 51, .ref 56])) n 0 0
  refine g_if_ne (tgt := 28) hX dX5_would_19 (by decide) (fun c => absurd c (by decide)) (fun _ => ?_)
  refine g_aload_n hX dX5_would_22 rfl rfl ?_
  refine g_iconst (v := (nI 1)) hX dX5_would_23 (by decide) ?_
  refine g_callV (As := [.int (nI 1)]) hX dX5_would_24 cb_X5_no ml_X5_84 im_X5_no se_X5_no rfl rfl (hs_eq _ _ _) ⟨_, rfl, rfl⟩ (kX5_no hst (hs_eq _ _ _) ) (Nat.le_of_ble_eq_true rfl) (Nat.le_of_ble_eq_true rfl) (by omega) (by omega) (Nat.le_of_ble_eq_true rfl) GX.no (pq ?_)
  show GW X 27 [some (.ref 40), some (.int (nI b)), some (.int a), some (.int d)] [.int (nI 0)] (hs (hs h 40 (oB 5 [.int (nI 0), .int (nI rc), .ref 41, .ref 42, .ref 43, .int (nI mc), .ref 44, .ref 45, .int tch, .int frs, .ref 46, .ref 47, .int len, .ref 48, .ref 49, .ref 50, .ref 51, .ref 56])) 40 (oB 5 [.int (nI 1), .int (nI rc), .ref 41, .ref 42, .ref 43, .int (nI mc), .ref 44, .ref 45, .int tch, .int frs, .ref 46, .ref 47, .int len, .ref 48, .ref 49, .ref 50, .ref 51, .ref 56])) n 0 0
  refine g_cg rfl hs_hs ?_
  refine g_ireturn hX hr dX5_would_27 (Nat.le_refl _) (Nat.le_refl _)  ?_
  exact ⟨rfl, rfl, fun j hj => (hs_ne (by omega)).trans (rfl), ⟨_, _, _, _, _, _, _, _, _, _, _, (hs_eq _ _ _), ((hs_ne (by omega)).trans (mco)), ((hs_ne (by omega)).trans (mdg)), ((hs_ne (by omega)).trans (mrw)), ((hs_ne (by omega)).trans (mgo)), ((hs_ne (by omega)).trans (mwe)), ((hs_ne (by omega)).trans (a0)), ((hs_ne (by omega)).trans (avt)), ((hs_ne (by omega)).trans (ati)), ((hs_ne (by omega)).trans (afa)), ((hs_ne (by omega)).trans (ast))⟩⟩
set_option maxRecDepth 20000 in
theorem kX5_would_l {l : Launch} {K : gw_K} (hst : l.stackTraces = false) {n : Nat} {h : gw_H} {rc mc : Nat} {thr tch frs len dy ady : Int32} {mn : Nat → Nat} {wd sk ws cs co dg rw_ go we vt ti fa st avt ati afa ast : Nat → Int32} {b m : Nat} {d : Int32} (m0 : h 40 = (oB 5 [.int thr, .int (nI rc), .ref 41, .ref 42, .ref 43, .int (nI mc), .ref 44, .ref 45, .int tch, .int frs, .ref 46, .ref 47, .int len, .ref 48, .ref 49, .ref 50, .ref 51, .ref 56])) (mwd : h 41 = (aI 20 wd)) (msk : h 42 = (aI 20 sk)) (mws : h 43 = (aI 18 ws)) (mmn : h 44 = (aI 5 (fun k => nI (mn k)))) (mcs : h 45 = (aI 60 cs)) (mco : h 46 = (aI 201 co)) (mdg : h 47 = (aI 201 dg)) (mrw : h 48 = (aI 6 rw_)) (mgo : h 49 = (aI 6 go)) (mwe : h 50 = (aI 6 we)) (s0 : h 51 = (oB 4 [.int dy, .ref (51 + 1), .ref (51 + 2), .ref (51 + 3), .ref (51 + 4), .ref 40])) (svt : h (51 + 1) = (aI 20 vt)) (sti : h (51 + 2) = (aI 20 ti)) (sfa : h (51 + 3) = (aI 20 fa)) (sst : h (51 + 4) = (aI 20 st)) (a0 : h 56 = (oB 4 [.int ady, .ref (56 + 1), .ref (56 + 2), .ref (56 + 3), .ref (56 + 4), .ref 40])) (avt : h (56 + 1) = (aI 20 avt)) (ati : h (56 + 2) = (aI 20 ati)) (afa : h (56 + 3) = (aI 20 afa)) (ast : h (56 + 4) = (aI 20 ast)) (hn62 : 62 ≤ n) (hm5 : mc ≤ 5) (hb3 : b < 3) (hk : m < mc) (hz : d < nI 1 ∨ nI 12 < d) : Ctr l K mX5_would [.ref 40, .int (nI b), .int (nI m), .int d] h n 0 0 (PM (some (.int (nI 0))) h n (nI 2) rc mc tch frs) (PX0) := by
  refine Ctr.of hst pn_X5_would (Nat.le_of_ble_eq_true rfl) (fun X hX hr hE => ?_)
  have hX : FX l K X cX5_would RX5 5 126 0 0 := hX
  show GW X 0 [some (.ref 40), some (.int (nI b)), some (.int (nI m)), some (.int d)] [] h n 0 0
  refine g_aload_n hX dX5_would_0 rfl rfl ?_
  refine g_iconst (v := (nI 0)) hX dX5_would_1 (by decide) ?_
  refine g_putI hX dX5_would_2 fl_X5_52 (m0) (Nat.le_of_ble_eq_true rfl) ?_
  show GW X 5 [some (.ref 40), some (.int (nI b)), some (.int (nI m)), some (.int d)] [] (hs h 40 (oB 5 [.int (nI 0), .int (nI rc), .ref 41, .ref 42, .ref 43, .int (nI mc), .ref 44, .ref 45, .int tch, .int frs, .ref 46, .ref 47, .int len, .ref 48, .ref 49, .ref 50, .ref 51, .ref 56])) n 0 0
  refine g_iload_n hX dX5_would_5 rfl rfl ?_
  refine g_iconst (v := (nI 0)) hX dX5_would_6 (by decide) ?_
  refine g_iconst (v := (nI 2)) hX dX5_would_7 (by decide) ?_
  refine g_callS (As := [.int (nI b), .int (nI 0), .int (nI 2)]) hX dX5_would_8 cb_X5_isIn ml_X5_59 st_X5_isIn rfl rfl (kX5_isIn hst (gn_okW (by omega) (by omega) (by omega))) (Nat.le_of_ble_eq_true rfl) (Nat.le_of_ble_eq_true rfl) (by omega) (by omega) (Nat.le_of_ble_eq_true rfl) GX.no (pq ?_)
  show GW X 11 [some (.ref 40), some (.int (nI b)), some (.int (nI m)), some (.int d)] [.int (nI 1)] (hs h 40 (oB 5 [.int (nI 0), .int (nI rc), .ref 41, .ref 42, .ref 43, .int (nI mc), .ref 44, .ref 45, .int tch, .int frs, .ref 46, .ref 47, .int len, .ref 48, .ref 49, .ref 50, .ref 51, .ref 56])) n 0 0
  refine g_if_eq (tgt := 22) hX dX5_would_11 (by decide) (fun c => absurd c (by decide)) (fun _ => ?_)
  refine g_aload_n hX dX5_would_14 rfl rfl ?_
  refine g_iload_n hX dX5_would_15 rfl rfl ?_
  refine g_callV (As := [.int (nI m)]) hX dX5_would_16 cb_X5_isMethod ml_X5_138 im_X5_isMethod se_X5_isMethod rfl rfl (hs_eq _ _ _) ⟨_, rfl, rfl⟩ (kX5_isMethod hst (hs_eq _ _ _) (hk) (by omega)) (Nat.le_of_ble_eq_true rfl) (Nat.le_of_ble_eq_true rfl) (by omega) (by omega) (Nat.le_of_ble_eq_true rfl) GX.no (pq ?_)
  show GW X 19 [some (.ref 40), some (.int (nI b)), some (.int (nI m)), some (.int d)] [.int (nI 1)] (hs h 40 (oB 5 [.int (nI 0), .int (nI rc), .ref 41, .ref 42, .ref 43, .int (nI mc), .ref 44, .ref 45, .int tch, .int frs, .ref 46, .ref 47, .int len, .ref 48, .ref 49, .ref 50, .ref 51, .ref 56])) n 0 0
  refine g_if_ne (tgt := 28) hX dX5_would_19 (by decide) (fun _ => ?_) (fun c => absurd c (by decide))
  refine g_iload_n hX dX5_would_28 rfl rfl ?_
  refine g_iconst (v := (nI 1)) hX dX5_would_29 (by decide) ?_
  refine g_bipush (v := (nI 12)) hX dX5_would_30 (by decide) ?_
  refine g_callS (As := [.int d, .int (nI 1), .int (nI 12)]) hX dX5_would_32 cb_X5_isIn ml_X5_59 st_X5_isIn rfl rfl (kX5_isIn_x hst (hz)) (Nat.le_of_ble_eq_true rfl) (Nat.le_of_ble_eq_true rfl) (by omega) (by omega) (Nat.le_of_ble_eq_true rfl) GX.no (pq ?_)
  show GW X 35 [some (.ref 40), some (.int (nI b)), some (.int (nI m)), some (.int d)] [.int (nI 0)] (hs h 40 (oB 5 [.int (nI 0), .int (nI rc), .ref 41, .ref 42, .ref 43, .int (nI mc), .ref 44, .ref 45, .int tch, .int frs, .ref 46, .ref 47, .int len, .ref 48, .ref 49, .ref 50, .ref 51, .ref 56])) n 0 0
  refine g_if_eq (tgt := 48) hX dX5_would_35 (by decide) (fun _ => ?_) (fun c => absurd (by decide) c)
  refine g_aload_n hX dX5_would_48 rfl rfl ?_
  refine g_iconst (v := (nI 2)) hX dX5_would_49 (by decide) ?_
  refine g_callV (As := [.int (nI 2)]) hX dX5_would_50 cb_X5_no ml_X5_84 im_X5_no se_X5_no rfl rfl (hs_eq _ _ _) ⟨_, rfl, rfl⟩ (kX5_no hst (hs_eq _ _ _) ) (Nat.le_of_ble_eq_true rfl) (Nat.le_of_ble_eq_true rfl) (by omega) (by omega) (Nat.le_of_ble_eq_true rfl) GX.no (pq ?_)
  show GW X 53 [some (.ref 40), some (.int (nI b)), some (.int (nI m)), some (.int d)] [.int (nI 0)] (hs (hs h 40 (oB 5 [.int (nI 0), .int (nI rc), .ref 41, .ref 42, .ref 43, .int (nI mc), .ref 44, .ref 45, .int tch, .int frs, .ref 46, .ref 47, .int len, .ref 48, .ref 49, .ref 50, .ref 51, .ref 56])) 40 (oB 5 [.int (nI 2), .int (nI rc), .ref 41, .ref 42, .ref 43, .int (nI mc), .ref 44, .ref 45, .int tch, .int frs, .ref 46, .ref 47, .int len, .ref 48, .ref 49, .ref 50, .ref 51, .ref 56])) n 0 0
  refine g_cg rfl hs_hs ?_
  refine g_ireturn hX hr dX5_would_53 (Nat.le_refl _) (Nat.le_refl _)  ?_
  exact ⟨rfl, rfl, fun j hj => (hs_ne (by omega)).trans (rfl), ⟨_, _, _, _, _, _, _, _, _, _, _, (hs_eq _ _ _), ((hs_ne (by omega)).trans (mco)), ((hs_ne (by omega)).trans (mdg)), ((hs_ne (by omega)).trans (mrw)), ((hs_ne (by omega)).trans (mgo)), ((hs_ne (by omega)).trans (mwe)), ((hs_ne (by omega)).trans (a0)), ((hs_ne (by omega)).trans (avt)), ((hs_ne (by omega)).trans (ati)), ((hs_ne (by omega)).trans (afa)), ((hs_ne (by omega)).trans (ast))⟩⟩
set_option maxRecDepth 20000 in
theorem kX5_ring_f {l : Launch} {K : gw_K} (hst : l.stackTraces = false) {n : Nat} {h : gw_H} {rc mc : Nat} {thr tch frs len dy ady : Int32} {mn : Nat → Nat} {wd sk ws cs co dg rw_ go we vt ti fa st avt ati afa ast : Nat → Int32} {b m L : Nat} (m0 : h 40 = (oB 5 [.int thr, .int (nI rc), .ref 41, .ref 42, .ref 43, .int (nI mc), .ref 44, .ref 45, .int tch, .int frs, .ref 46, .ref 47, .int len, .ref 48, .ref 49, .ref 50, .ref 51, .ref 56])) (mwd : h 41 = (aI 20 wd)) (msk : h 42 = (aI 20 sk)) (mws : h 43 = (aI 18 ws)) (mmn : h 44 = (aI 5 (fun k => nI (mn k)))) (mcs : h 45 = (aI 60 cs)) (mco : h 46 = (aI 201 co)) (mdg : h 47 = (aI 201 dg)) (mrw : h 48 = (aI 6 rw_)) (mgo : h 49 = (aI 6 go)) (mwe : h 50 = (aI 6 we)) (s0 : h 51 = (oB 4 [.int dy, .ref (51 + 1), .ref (51 + 2), .ref (51 + 3), .ref (51 + 4), .ref 40])) (svt : h (51 + 1) = (aI 20 vt)) (sti : h (51 + 2) = (aI 20 ti)) (sfa : h (51 + 3) = (aI 20 fa)) (sst : h (51 + 4) = (aI 20 st)) (a0 : h 56 = (oB 4 [.int ady, .ref (56 + 1), .ref (56 + 2), .ref (56 + 3), .ref (56 + 4), .ref 40])) (avt : h (56 + 1) = (aI 20 avt)) (ati : h (56 + 2) = (aI 20 ati)) (afa : h (56 + 3) = (aI 20 afa)) (ast : h (56 + 4) = (aI 20 ast)) (hn62 : 62 ≤ n) (hm5 : mc ≤ 5) (hrc : rc ≤ 20) (hsi : seatI st rc) (hb3 : b < 3) (hk : m < mc) (hmn : mn m ≤ 12) (hL1 : 1 ≤ L) (hL12 : L ≤ 12) (hz : ¬ (0 < mn m ∧ freshI st ti rc (nI b) = nI 6)) : Ctr l K mX5_ring [.ref 40, .int (nI b), .int (nI m), .int (nI L)] h n 0 0 (PM (some (.int (nI 0))) h n (nI 3) rc mc tch frs) (PX0) := by
  refine Ctr.of hst pn_X5_ring (Nat.le_of_ble_eq_true rfl) (fun X hX hr hE => ?_)
  have hX : FX l K X cX5_ring RX5 4 102 0 0 := hX
  show GW X 0 [some (.ref 40), some (.int (nI b)), some (.int (nI m)), some (.int (nI L)), none] [] h n 0 0
  refine g_aload_n hX dX5_ring_0 rfl rfl ?_
  refine g_iconst (v := (nI 0)) hX dX5_ring_1 (by decide) ?_
  refine g_putI hX dX5_ring_2 fl_X5_52 (m0) (Nat.le_of_ble_eq_true rfl) ?_
  show GW X 5 [some (.ref 40), some (.int (nI b)), some (.int (nI m)), some (.int (nI L)), none] [] (hs h 40 (oB 5 [.int (nI 0), .int (nI rc), .ref 41, .ref 42, .ref 43, .int (nI mc), .ref 44, .ref 45, .int tch, .int frs, .ref 46, .ref 47, .int len, .ref 48, .ref 49, .ref 50, .ref 51, .ref 56])) n 0 0
  refine g_iload_n hX dX5_ring_5 rfl rfl ?_
  refine g_iconst (v := (nI 0)) hX dX5_ring_6 (by decide) ?_
  refine g_iconst (v := (nI 2)) hX dX5_ring_7 (by decide) ?_
  refine g_callS (As := [.int (nI b), .int (nI 0), .int (nI 2)]) hX dX5_ring_8 cb_X5_isIn ml_X5_59 st_X5_isIn rfl rfl (kX5_isIn hst (gn_okW (by omega) (by omega) (by omega))) (Nat.le_of_ble_eq_true rfl) (Nat.le_of_ble_eq_true rfl) (by omega) (by omega) (Nat.le_of_ble_eq_true rfl) GX.no (pq ?_)
  show GW X 11 [some (.ref 40), some (.int (nI b)), some (.int (nI m)), some (.int (nI L)), none] [.int (nI 1)] (hs h 40 (oB 5 [.int (nI 0), .int (nI rc), .ref 41, .ref 42, .ref 43, .int (nI mc), .ref 44, .ref 45, .int tch, .int frs, .ref 46, .ref 47, .int len, .ref 48, .ref 49, .ref 50, .ref 51, .ref 56])) n 0 0
  refine g_if_eq (tgt := 22) hX dX5_ring_11 (by decide) (fun c => absurd c (by decide)) (fun _ => ?_)
  refine g_aload_n hX dX5_ring_14 rfl rfl ?_
  refine g_iload_n hX dX5_ring_15 rfl rfl ?_
  refine g_callV (As := [.int (nI m)]) hX dX5_ring_16 cb_X5_isMethod ml_X5_138 im_X5_isMethod se_X5_isMethod rfl rfl (hs_eq _ _ _) ⟨_, rfl, rfl⟩ (kX5_isMethod hst (hs_eq _ _ _) (hk) (by omega)) (Nat.le_of_ble_eq_true rfl) (Nat.le_of_ble_eq_true rfl) (by omega) (by omega) (Nat.le_of_ble_eq_true rfl) GX.no (pq ?_)
  show GW X 19 [some (.ref 40), some (.int (nI b)), some (.int (nI m)), some (.int (nI L)), none] [.int (nI 1)] (hs h 40 (oB 5 [.int (nI 0), .int (nI rc), .ref 41, .ref 42, .ref 43, .int (nI mc), .ref 44, .ref 45, .int tch, .int frs, .ref 46, .ref 47, .int len, .ref 48, .ref 49, .ref 50, .ref 51, .ref 56])) n 0 0
  refine g_if_ne (tgt := 28) hX dX5_ring_19 (by decide) (fun _ => ?_) (fun c => absurd c (by decide))
  refine g_iload_n hX dX5_ring_28 rfl rfl ?_
  refine g_iconst (v := (nI 1)) hX dX5_ring_29 (by decide) ?_
  refine g_bipush (v := (nI 12)) hX dX5_ring_30 (by decide) ?_
  refine g_callS (As := [.int (nI L), .int (nI 1), .int (nI 12)]) hX dX5_ring_32 cb_X5_isIn ml_X5_59 st_X5_isIn rfl rfl (kX5_isIn hst (gn_okW hL1 hL12 (by omega))) (Nat.le_of_ble_eq_true rfl) (Nat.le_of_ble_eq_true rfl) (by omega) (by omega) (Nat.le_of_ble_eq_true rfl) GX.no (pq ?_)
  show GW X 35 [some (.ref 40), some (.int (nI b)), some (.int (nI m)), some (.int (nI L)), none] [.int (nI 1)] (hs h 40 (oB 5 [.int (nI 0), .int (nI rc), .ref 41, .ref 42, .ref 43, .int (nI mc), .ref 44, .ref 45, .int tch, .int frs, .ref 46, .ref 47, .int len, .ref 48, .ref 49, .ref 50, .ref 51, .ref 56])) n 0 0
  refine g_if_ne (tgt := 44) hX dX5_ring_35 (by decide) (fun _ => ?_) (fun c => absurd c (by decide))
  refine g_aload_n hX dX5_ring_44 rfl rfl ?_
  refine g_getf hX dX5_ring_45 fl_X5_45 (hs_eq _ _ _) rfl ?_
  refine g_iload_n hX dX5_ring_48 rfl rfl ?_
  refine g_iload_n hX dX5_ring_49 rfl rfl ?_
  refine g_callV (As := [.int (nI b), .int (nI m)]) hX dX5_ring_50 cb_X4_canRing ml_X5_153 im_X4_canRing se_X4_canRing rfl rfl ((hs_ne (by omega)).trans (s0)) ⟨_, rfl, rfl⟩ (kX4_canRing hst (hs_eq _ _ _) ((hs_ne (by omega)).trans (mmn)) ((hs_ne (by omega)).trans (s0)) ((hs_ne (by omega)).trans (sti)) ((hs_ne (by omega)).trans (sst)) (by omega) (by omega) (by omega) (hmn) (hsi)) (Nat.le_of_ble_eq_true rfl) (Nat.le_of_ble_eq_true rfl) (by omega) (by omega) (Nat.le_of_ble_eq_true rfl) GX.no (pq ?_)
  show GW X 53 [some (.ref 40), some (.int (nI b)), some (.int (nI m)), some (.int (nI L)), none] [.int (if 0 < mn m ∧ freshI st ti rc (nI b) = nI 6 then nI 1 else nI 0)] (hs h 40 (oB 5 [.int (nI 0), .int (nI rc), .ref 41, .ref 42, .ref 43, .int (nI mc), .ref 44, .ref 45, .int tch, .int frs, .ref 46, .ref 47, .int len, .ref 48, .ref 49, .ref 50, .ref 51, .ref 56])) n 0 0
  refine g_ifB_ne (tgt := 62) hX dX5_ring_53 (by decide) (fun c1 => ?_) (fun c1 => ?_)
  · exact absurd c1 hz
  · refine g_aload_n hX dX5_ring_56 rfl rfl ?_
    refine g_iconst (v := (nI 3)) hX dX5_ring_57 (by decide) ?_
    refine g_callV (As := [.int (nI 3)]) hX dX5_ring_58 cb_X5_no ml_X5_84 im_X5_no se_X5_no rfl rfl (hs_eq _ _ _) ⟨_, rfl, rfl⟩ (kX5_no hst (hs_eq _ _ _) ) (Nat.le_of_ble_eq_true rfl) (Nat.le_of_ble_eq_true rfl) (by omega) (by omega) (Nat.le_of_ble_eq_true rfl) GX.no (pq ?_)
    show GW X 61 [some (.ref 40), some (.int (nI b)), some (.int (nI m)), some (.int (nI L)), none] [.int (nI 0)] (hs (hs h 40 (oB 5 [.int (nI 0), .int (nI rc), .ref 41, .ref 42, .ref 43, .int (nI mc), .ref 44, .ref 45, .int tch, .int frs, .ref 46, .ref 47, .int len, .ref 48, .ref 49, .ref 50, .ref 51, .ref 56])) 40 (oB 5 [.int (nI 3), .int (nI rc), .ref 41, .ref 42, .ref 43, .int (nI mc), .ref 44, .ref 45, .int tch, .int frs, .ref 46, .ref 47, .int len, .ref 48, .ref 49, .ref 50, .ref 51, .ref 56])) n 0 0
    refine g_cg rfl hs_hs ?_
    refine g_ireturn hX hr dX5_ring_61 (Nat.le_refl _) (Nat.le_refl _)  ?_
    exact ⟨rfl, rfl, fun j hj => (hs_ne (by omega)).trans (rfl), ⟨_, _, _, _, _, _, _, _, _, _, _, (hs_eq _ _ _), ((hs_ne (by omega)).trans (mco)), ((hs_ne (by omega)).trans (mdg)), ((hs_ne (by omega)).trans (mrw)), ((hs_ne (by omega)).trans (mgo)), ((hs_ne (by omega)).trans (mwe)), ((hs_ne (by omega)).trans (a0)), ((hs_ne (by omega)).trans (avt)), ((hs_ne (by omega)).trans (ati)), ((hs_ne (by omega)).trans (afa)), ((hs_ne (by omega)).trans (ast))⟩⟩
set_option maxRecDepth 20000 in
theorem kX5_ring {l : Launch} {K : gw_K} (hst : l.stackTraces = false) {n : Nat} {h : gw_H} {rc mc : Nat} {thr tch frs len dy ady : Int32} {mn : Nat → Nat} {wd sk ws cs co dg rw_ go we vt ti fa st avt ati afa ast : Nat → Int32} {b m L : Nat} (m0 : h 40 = (oB 5 [.int thr, .int (nI rc), .ref 41, .ref 42, .ref 43, .int (nI mc), .ref 44, .ref 45, .int tch, .int frs, .ref 46, .ref 47, .int len, .ref 48, .ref 49, .ref 50, .ref 51, .ref 56])) (mwd : h 41 = (aI 20 wd)) (msk : h 42 = (aI 20 sk)) (mws : h 43 = (aI 18 ws)) (mmn : h 44 = (aI 5 (fun k => nI (mn k)))) (mcs : h 45 = (aI 60 cs)) (mco : h 46 = (aI 201 co)) (mdg : h 47 = (aI 201 dg)) (mrw : h 48 = (aI 6 rw_)) (mgo : h 49 = (aI 6 go)) (mwe : h 50 = (aI 6 we)) (s0 : h 51 = (oB 4 [.int dy, .ref (51 + 1), .ref (51 + 2), .ref (51 + 3), .ref (51 + 4), .ref 40])) (svt : h (51 + 1) = (aI 20 vt)) (sti : h (51 + 2) = (aI 20 ti)) (sfa : h (51 + 3) = (aI 20 fa)) (sst : h (51 + 4) = (aI 20 st)) (a0 : h 56 = (oB 4 [.int ady, .ref (56 + 1), .ref (56 + 2), .ref (56 + 3), .ref (56 + 4), .ref 40])) (avt : h (56 + 1) = (aI 20 avt)) (ati : h (56 + 2) = (aI 20 ati)) (afa : h (56 + 3) = (aI 20 afa)) (ast : h (56 + 4) = (aI 20 ast)) (hn62 : 62 ≤ n) (hm5 : mc ≤ 5) (hrc : rc ≤ 20) (hsi : seatI st rc) (hb3 : b < 3) (hk : m < mc) (hmn : mn m ≤ 12) (hL1 : 1 ≤ L) (hL12 : L ≤ 12) (hz : 0 < mn m ∧ freshI st ti rc (nI b) = nI 6) : Ctr l K mX5_ring [.ref 40, .int (nI b), .int (nI m), .int (nI L)] h n 0 0 (PM (some (.int (untI (codI (chM cs mn m)) (L * mn m)))) (hs (hs (hs h (51 + 1) (aI 20 ((mrI st sk (ddgI (chM cs mn m)) rc b (mmI (chM cs mn m) (L * mn m) L) (L * mn m) (ti, fa, vt)).2.2))) (51 + 2) (aI 20 ((mrI st sk (ddgI (chM cs mn m)) rc b (mmI (chM cs mn m) (L * mn m) L) (L * mn m) (ti, fa, vt)).1))) (51 + 3) (aI 20 ((mrI st sk (ddgI (chM cs mn m)) rc b (mmI (chM cs mn m) (L * mn m) L) (L * mn m) (ti, fa, vt)).2.1))) n (nI 0) rc mc (tch + nI 1) (frs + (untI (codI (chM cs mn m)) (L * mn m)))) (PX0) := by
  refine Ctr.of hst pn_X5_ring (Nat.le_of_ble_eq_true rfl) (fun X hX hr hE => ?_)
  have hX : FX l K X cX5_ring RX5 4 102 0 0 := hX
  show GW X 0 [some (.ref 40), some (.int (nI b)), some (.int (nI m)), some (.int (nI L)), none] [] h n 0 0
  have hso : ∀ r, r < rc → seatOK (st r) := fun r hr => (hsi r hr).1
  refine g_aload_n hX dX5_ring_0 rfl rfl ?_
  refine g_iconst (v := (nI 0)) hX dX5_ring_1 (by decide) ?_
  refine g_putI hX dX5_ring_2 fl_X5_52 (m0) (Nat.le_of_ble_eq_true rfl) ?_
  show GW X 5 [some (.ref 40), some (.int (nI b)), some (.int (nI m)), some (.int (nI L)), none] [] (hs h 40 (oB 5 [.int (nI 0), .int (nI rc), .ref 41, .ref 42, .ref 43, .int (nI mc), .ref 44, .ref 45, .int tch, .int frs, .ref 46, .ref 47, .int len, .ref 48, .ref 49, .ref 50, .ref 51, .ref 56])) n 0 0
  refine g_iload_n hX dX5_ring_5 rfl rfl ?_
  refine g_iconst (v := (nI 0)) hX dX5_ring_6 (by decide) ?_
  refine g_iconst (v := (nI 2)) hX dX5_ring_7 (by decide) ?_
  refine g_callS (As := [.int (nI b), .int (nI 0), .int (nI 2)]) hX dX5_ring_8 cb_X5_isIn ml_X5_59 st_X5_isIn rfl rfl (kX5_isIn hst (gn_okW (by omega) (by omega) (by omega))) (Nat.le_of_ble_eq_true rfl) (Nat.le_of_ble_eq_true rfl) (by omega) (by omega) (Nat.le_of_ble_eq_true rfl) GX.no (pq ?_)
  show GW X 11 [some (.ref 40), some (.int (nI b)), some (.int (nI m)), some (.int (nI L)), none] [.int (nI 1)] (hs h 40 (oB 5 [.int (nI 0), .int (nI rc), .ref 41, .ref 42, .ref 43, .int (nI mc), .ref 44, .ref 45, .int tch, .int frs, .ref 46, .ref 47, .int len, .ref 48, .ref 49, .ref 50, .ref 51, .ref 56])) n 0 0
  refine g_if_eq (tgt := 22) hX dX5_ring_11 (by decide) (fun c => absurd c (by decide)) (fun _ => ?_)
  refine g_aload_n hX dX5_ring_14 rfl rfl ?_
  refine g_iload_n hX dX5_ring_15 rfl rfl ?_
  refine g_callV (As := [.int (nI m)]) hX dX5_ring_16 cb_X5_isMethod ml_X5_138 im_X5_isMethod se_X5_isMethod rfl rfl (hs_eq _ _ _) ⟨_, rfl, rfl⟩ (kX5_isMethod hst (hs_eq _ _ _) (hk) (by omega)) (Nat.le_of_ble_eq_true rfl) (Nat.le_of_ble_eq_true rfl) (by omega) (by omega) (Nat.le_of_ble_eq_true rfl) GX.no (pq ?_)
  show GW X 19 [some (.ref 40), some (.int (nI b)), some (.int (nI m)), some (.int (nI L)), none] [.int (nI 1)] (hs h 40 (oB 5 [.int (nI 0), .int (nI rc), .ref 41, .ref 42, .ref 43, .int (nI mc), .ref 44, .ref 45, .int tch, .int frs, .ref 46, .ref 47, .int len, .ref 48, .ref 49, .ref 50, .ref 51, .ref 56])) n 0 0
  refine g_if_ne (tgt := 28) hX dX5_ring_19 (by decide) (fun _ => ?_) (fun c => absurd c (by decide))
  refine g_iload_n hX dX5_ring_28 rfl rfl ?_
  refine g_iconst (v := (nI 1)) hX dX5_ring_29 (by decide) ?_
  refine g_bipush (v := (nI 12)) hX dX5_ring_30 (by decide) ?_
  refine g_callS (As := [.int (nI L), .int (nI 1), .int (nI 12)]) hX dX5_ring_32 cb_X5_isIn ml_X5_59 st_X5_isIn rfl rfl (kX5_isIn hst (gn_okW hL1 hL12 (by omega))) (Nat.le_of_ble_eq_true rfl) (Nat.le_of_ble_eq_true rfl) (by omega) (by omega) (Nat.le_of_ble_eq_true rfl) GX.no (pq ?_)
  show GW X 35 [some (.ref 40), some (.int (nI b)), some (.int (nI m)), some (.int (nI L)), none] [.int (nI 1)] (hs h 40 (oB 5 [.int (nI 0), .int (nI rc), .ref 41, .ref 42, .ref 43, .int (nI mc), .ref 44, .ref 45, .int tch, .int frs, .ref 46, .ref 47, .int len, .ref 48, .ref 49, .ref 50, .ref 51, .ref 56])) n 0 0
  refine g_if_ne (tgt := 44) hX dX5_ring_35 (by decide) (fun _ => ?_) (fun c => absurd c (by decide))
  refine g_aload_n hX dX5_ring_44 rfl rfl ?_
  refine g_getf hX dX5_ring_45 fl_X5_45 (hs_eq _ _ _) rfl ?_
  refine g_iload_n hX dX5_ring_48 rfl rfl ?_
  refine g_iload_n hX dX5_ring_49 rfl rfl ?_
  refine g_callV (As := [.int (nI b), .int (nI m)]) hX dX5_ring_50 cb_X4_canRing ml_X5_153 im_X4_canRing se_X4_canRing rfl rfl ((hs_ne (by omega)).trans (s0)) ⟨_, rfl, rfl⟩ (kX4_canRing hst (hs_eq _ _ _) ((hs_ne (by omega)).trans (mmn)) ((hs_ne (by omega)).trans (s0)) ((hs_ne (by omega)).trans (sti)) ((hs_ne (by omega)).trans (sst)) (by omega) (by omega) (by omega) (hmn) (hsi)) (Nat.le_of_ble_eq_true rfl) (Nat.le_of_ble_eq_true rfl) (by omega) (by omega) (Nat.le_of_ble_eq_true rfl) GX.no (pq ?_)
  show GW X 53 [some (.ref 40), some (.int (nI b)), some (.int (nI m)), some (.int (nI L)), none] [.int (if 0 < mn m ∧ freshI st ti rc (nI b) = nI 6 then nI 1 else nI 0)] (hs h 40 (oB 5 [.int (nI 0), .int (nI rc), .ref 41, .ref 42, .ref 43, .int (nI mc), .ref 44, .ref 45, .int tch, .int frs, .ref 46, .ref 47, .int len, .ref 48, .ref 49, .ref 50, .ref 51, .ref 56])) n 0 0
  refine g_ifB_ne (tgt := 62) hX dX5_ring_53 (by decide) (fun c1 => ?_) (fun c1 => ?_)
  · refine g_aload_n hX dX5_ring_62 rfl rfl ?_
    refine g_getf hX dX5_ring_63 fl_X5_45 (hs_eq _ _ _) rfl ?_
    refine g_iload_n hX dX5_ring_66 rfl rfl ?_
    refine g_iload_n hX dX5_ring_67 rfl rfl ?_
    refine g_iload_n hX dX5_ring_68 rfl rfl ?_
    refine g_callV (As := [.int (nI b), .int (nI m), .int (nI L)]) hX dX5_ring_69 cb_X4_ring ml_X5_156 im_X4_ring se_X4_ring rfl rfl ((hs_ne (by omega)).trans (s0)) ⟨_, rfl, rfl⟩ (kX4_ring hst (hs_eq _ _ _) ((hs_ne (by omega)).trans (msk)) ((hs_ne (by omega)).trans (mmn)) ((hs_ne (by omega)).trans (mcs)) ((hs_ne (by omega)).trans (mco)) ((hs_ne (by omega)).trans (mdg)) ((hs_ne (by omega)).trans (mrw)) ((hs_ne (by omega)).trans (mgo)) ((hs_ne (by omega)).trans (mwe)) ((hs_ne (by omega)).trans (s0)) ((hs_ne (by omega)).trans (svt)) ((hs_ne (by omega)).trans (sti)) ((hs_ne (by omega)).trans (sfa)) ((hs_ne (by omega)).trans (sst)) (by omega) (by omega) (by omega) (by omega) (by omega) (by omega) hso) (Nat.le_of_ble_eq_true rfl) (Nat.le_of_ble_eq_true rfl) (by omega) (by omega) (Nat.le_of_ble_eq_true rfl) GX.no ?_
    rintro _ h2 _ - ⟨rfl, rfl, hk3⟩
    show GW X 72 [some (.ref 40), some (.int (nI b)), some (.int (nI m)), some (.int (nI L)), none] [.int (untI (codI (chM cs mn m)) (L * (mn m)))] h2 n 0 0
    obtain ⟨hk3K, co2, dg2, rw_2, go2, we2, q46_2, q47_2, q48_2, q49_2, q50_2, hco2, hdg2⟩ := id hk3
    refine g_istore hX dX5_ring_72 (Nat.le_of_ble_eq_true rfl) rfl ?_
    refine g_aload_n hX dX5_ring_74 rfl rfl ?_
    refine g_dup hX dX5_ring_75 rfl ?_
    refine g_getf hX dX5_ring_76 fl_X5_159 ((hk3K _ (by omega)).trans ((hs_ne (by omega)).trans ((hs_ne (by omega)).trans ((hs_ne (by omega)).trans (hs_eq _ _ _))))) rfl ?_
    refine g_iconst (v := (nI 1)) hX dX5_ring_79 (by decide) ?_
    refine g_iadd hX dX5_ring_80 ?_
    refine g_putI hX dX5_ring_81 fl_X5_159 ((hk3K _ (by omega)).trans ((hs_ne (by omega)).trans ((hs_ne (by omega)).trans ((hs_ne (by omega)).trans (hs_eq _ _ _))))) (Nat.le_of_ble_eq_true rfl) ?_
    show GW X 84 [some (.ref 40), some (.int (nI b)), some (.int (nI m)), some (.int (nI L)), some (.int (untI (codI (chM cs mn m)) (L * (mn m))))] [] (hs h2 40 (oB 5 [.int (nI 0), .int (nI rc), .ref 41, .ref 42, .ref 43, .int (nI mc), .ref 44, .ref 45, .int (tch + (nI 1)), .int frs, .ref 46, .ref 47, .int (nI (L * (mn m))), .ref 48, .ref 49, .ref 50, .ref 51, .ref 56])) n 0 0
    refine g_aload_n hX dX5_ring_84 rfl rfl ?_
    refine g_dup hX dX5_ring_85 rfl ?_
    refine g_getf hX dX5_ring_86 fl_X5_162 (hs_eq _ _ _) rfl ?_
    refine g_iload hX dX5_ring_89 rfl ?_
    refine g_iadd hX dX5_ring_91 ?_
    refine g_putI hX dX5_ring_92 fl_X5_162 (hs_eq _ _ _) (Nat.le_of_ble_eq_true rfl) ?_
    refine g_cg rfl hs_hs ?_
    show GW X 95 [some (.ref 40), some (.int (nI b)), some (.int (nI m)), some (.int (nI L)), some (.int (untI (codI (chM cs mn m)) (L * (mn m))))] [] (hs h2 40 (oB 5 [.int (nI 0), .int (nI rc), .ref 41, .ref 42, .ref 43, .int (nI mc), .ref 44, .ref 45, .int (tch + (nI 1)), .int (frs + (untI (codI (chM cs mn m)) (L * (mn m)))), .ref 46, .ref 47, .int (nI (L * (mn m))), .ref 48, .ref 49, .ref 50, .ref 51, .ref 56])) n 0 0
    refine g_iload hX dX5_ring_95 rfl ?_
    refine g_ireturn hX hr dX5_ring_97 (Nat.le_refl _) (Nat.le_refl _)  ?_
    exact ⟨rfl, rfl, fun j hj => (hs_ne (by omega)).trans ((hk3K j (by omega)).trans (hs_cgj (hs_cgj (hs_cgj ((hs_ne (by omega)).trans ((hs_ne (by omega)).trans (rfl))))))), ⟨_, _, _, _, _, _, _, _, _, _, _, (hs_eq _ _ _), ((hs_ne (by omega)).trans (q46_2)), ((hs_ne (by omega)).trans (q47_2)), ((hs_ne (by omega)).trans (q48_2)), ((hs_ne (by omega)).trans (q49_2)), ((hs_ne (by omega)).trans (q50_2)), ((hs_ne (by omega)).trans ((hk3K _ (by omega)).trans ((hs_ne (by omega)).trans ((hs_ne (by omega)).trans ((hs_ne (by omega)).trans ((hs_ne (by omega)).trans ((hs_ne (by omega)).trans (a0)))))))), ((hs_ne (by omega)).trans ((hk3K _ (by omega)).trans ((hs_ne (by omega)).trans ((hs_ne (by omega)).trans ((hs_ne (by omega)).trans ((hs_ne (by omega)).trans ((hs_ne (by omega)).trans (avt)))))))), ((hs_ne (by omega)).trans ((hk3K _ (by omega)).trans ((hs_ne (by omega)).trans ((hs_ne (by omega)).trans ((hs_ne (by omega)).trans ((hs_ne (by omega)).trans ((hs_ne (by omega)).trans (ati)))))))), ((hs_ne (by omega)).trans ((hk3K _ (by omega)).trans ((hs_ne (by omega)).trans ((hs_ne (by omega)).trans ((hs_ne (by omega)).trans ((hs_ne (by omega)).trans ((hs_ne (by omega)).trans (afa)))))))), ((hs_ne (by omega)).trans ((hk3K _ (by omega)).trans ((hs_ne (by omega)).trans ((hs_ne (by omega)).trans ((hs_ne (by omega)).trans ((hs_ne (by omega)).trans ((hs_ne (by omega)).trans (ast))))))))⟩⟩
  · exact absurd hz c1
set_option maxRecDepth 20000 in
theorem kX5_wouldBring {l : Launch} {K : gw_K} (hst : l.stackTraces = false) {n : Nat} {h : gw_H} {rc mc : Nat} {thr tch frs len dy ady : Int32} {mn : Nat → Nat} {wd sk ws cs co dg rw_ go we vt ti fa st avt ati afa ast : Nat → Int32} {b m L : Nat} (m0 : h 40 = (oB 5 [.int thr, .int (nI rc), .ref 41, .ref 42, .ref 43, .int (nI mc), .ref 44, .ref 45, .int tch, .int frs, .ref 46, .ref 47, .int len, .ref 48, .ref 49, .ref 50, .ref 51, .ref 56])) (mwd : h 41 = (aI 20 wd)) (msk : h 42 = (aI 20 sk)) (mws : h 43 = (aI 18 ws)) (mmn : h 44 = (aI 5 (fun k => nI (mn k)))) (mcs : h 45 = (aI 60 cs)) (mco : h 46 = (aI 201 co)) (mdg : h 47 = (aI 201 dg)) (mrw : h 48 = (aI 6 rw_)) (mgo : h 49 = (aI 6 go)) (mwe : h 50 = (aI 6 we)) (s0 : h 51 = (oB 4 [.int dy, .ref (51 + 1), .ref (51 + 2), .ref (51 + 3), .ref (51 + 4), .ref 40])) (svt : h (51 + 1) = (aI 20 vt)) (sti : h (51 + 2) = (aI 20 ti)) (sfa : h (51 + 3) = (aI 20 fa)) (sst : h (51 + 4) = (aI 20 st)) (a0 : h 56 = (oB 4 [.int ady, .ref (56 + 1), .ref (56 + 2), .ref (56 + 3), .ref (56 + 4), .ref 40])) (avt : h (56 + 1) = (aI 20 avt)) (ati : h (56 + 2) = (aI 20 ati)) (afa : h (56 + 3) = (aI 20 afa)) (ast : h (56 + 4) = (aI 20 ast)) (hn62 : 62 ≤ n) (hm5 : mc ≤ 5) (hrc : rc ≤ 20) (hsi : seatI st rc) (hb3 : b < 3) (hk : m < mc) (hmn : mn m ≤ 12) (hL12 : L ≤ 12)  : Ctr l K mX5_wouldBring [.ref 40, .int (nI b), .int (nI m), .int (nI L)] h n 0 0 (PM (some (.int (mbrI vt ti fa st sk (chM cs mn m) rc b (mn m) L))) h n thr rc mc tch frs) (PX0) := by
  refine Ctr.of hst pn_X5_wouldBring (Nat.le_of_ble_eq_true rfl) (fun X hX hr hE => ?_)
  have hX : FX l K X cX5_wouldBring RX5 4 103 0 0 := hX
  show GW X 0 [some (.ref 40), some (.int (nI b)), some (.int (nI m)), some (.int (nI L))] [] h n 0 0
  have hso : ∀ r, r < rc → seatOK (st r) := fun r hr => (hsi r hr).1
  refine g_aload_n hX dX5_wouldBring_0 rfl rfl ?_
  refine g_getf hX dX5_wouldBring_1 fl_X5_45 (m0) rfl ?_
  refine g_iload_n hX dX5_wouldBring_4 rfl rfl ?_
  refine g_iload_n hX dX5_wouldBring_5 rfl rfl ?_
  refine g_callV (As := [.int (nI b), .int (nI m)]) hX dX5_wouldBring_6 cb_X4_canRing ml_X5_153 im_X4_canRing se_X4_canRing rfl rfl (s0) ⟨_, rfl, rfl⟩ (kX4_canRing hst (m0) (mmn) (s0) (sti) (sst) (by omega) (by omega) (by omega) (hmn) (hsi)) (Nat.le_of_ble_eq_true rfl) (Nat.le_of_ble_eq_true rfl) (by omega) (by omega) (Nat.le_of_ble_eq_true rfl) GX.no (pq ?_)
  show GW X 9 [some (.ref 40), some (.int (nI b)), some (.int (nI m)), some (.int (nI L))] [.int (if 0 < mn m ∧ freshI st ti rc (nI b) = nI 6 then nI 1 else nI 0)] h n 0 0
  refine g_ifB_ne (tgt := 16) hX dX5_wouldBring_9 (by decide) (fun c1 => ?_) (fun c1 => ?_)
  · refine g_aload_n hX dX5_wouldBring_16 rfl rfl ?_
    refine g_getf hX dX5_wouldBring_17 fl_X5_49 (m0) rfl ?_
    refine g_aload_n hX dX5_wouldBring_20 rfl rfl ?_
    refine g_getf hX dX5_wouldBring_21 fl_X5_45 (m0) rfl ?_
    refine g_callV (As := [.ref 51]) hX dX5_wouldBring_24 cb_X4_become ml_X5_130 im_X4_become se_X4_become rfl rfl (a0) ⟨_, rfl, rfl⟩ (kX4_become hst (by omega) (a0) (avt) (ati) (afa) (ast) (s0) (svt) (sti) (sfa) (sst)) (Nat.le_of_ble_eq_true rfl) (Nat.le_of_ble_eq_true rfl) (by omega) (by omega) (Nat.le_of_ble_eq_true rfl) GX.no (pq ?_)
    show GW X 27 [some (.ref 40), some (.int (nI b)), some (.int (nI m)), some (.int (nI L))] [.ref 56] (hs (hs (hs (hs (hs h 56 (oB 4 [.int dy, .ref (56 + 1), .ref (56 + 2), .ref (56 + 3), .ref (56 + 4), .ref 40])) (56 + 1) (aI 20 vt)) (56 + 2) (aI 20 ti)) (56 + 3) (aI 20 fa)) (56 + 4) (aI 20 st)) n 0 0
    refine g_iload_n hX dX5_wouldBring_27 rfl rfl ?_
    refine g_iload_n hX dX5_wouldBring_28 rfl rfl ?_
    refine g_iload_n hX dX5_wouldBring_29 rfl rfl ?_
    refine g_callV (As := [.int (nI b), .int (nI m), .int (nI L)]) hX dX5_wouldBring_30 cb_X4_ring ml_X5_156 im_X4_ring se_X4_ring rfl rfl ((hs_ne (by omega)).trans ((hs_ne (by omega)).trans ((hs_ne (by omega)).trans ((hs_ne (by omega)).trans (hs_eq _ _ _))))) ⟨_, rfl, rfl⟩ (kX4_ring hst ((hs_ne (by omega)).trans ((hs_ne (by omega)).trans ((hs_ne (by omega)).trans ((hs_ne (by omega)).trans ((hs_ne (by omega)).trans (m0)))))) ((hs_ne (by omega)).trans ((hs_ne (by omega)).trans ((hs_ne (by omega)).trans ((hs_ne (by omega)).trans ((hs_ne (by omega)).trans (msk)))))) ((hs_ne (by omega)).trans ((hs_ne (by omega)).trans ((hs_ne (by omega)).trans ((hs_ne (by omega)).trans ((hs_ne (by omega)).trans (mmn)))))) ((hs_ne (by omega)).trans ((hs_ne (by omega)).trans ((hs_ne (by omega)).trans ((hs_ne (by omega)).trans ((hs_ne (by omega)).trans (mcs)))))) ((hs_ne (by omega)).trans ((hs_ne (by omega)).trans ((hs_ne (by omega)).trans ((hs_ne (by omega)).trans ((hs_ne (by omega)).trans (mco)))))) ((hs_ne (by omega)).trans ((hs_ne (by omega)).trans ((hs_ne (by omega)).trans ((hs_ne (by omega)).trans ((hs_ne (by omega)).trans (mdg)))))) ((hs_ne (by omega)).trans ((hs_ne (by omega)).trans ((hs_ne (by omega)).trans ((hs_ne (by omega)).trans ((hs_ne (by omega)).trans (mrw)))))) ((hs_ne (by omega)).trans ((hs_ne (by omega)).trans ((hs_ne (by omega)).trans ((hs_ne (by omega)).trans ((hs_ne (by omega)).trans (mgo)))))) ((hs_ne (by omega)).trans ((hs_ne (by omega)).trans ((hs_ne (by omega)).trans ((hs_ne (by omega)).trans ((hs_ne (by omega)).trans (mwe)))))) ((hs_ne (by omega)).trans ((hs_ne (by omega)).trans ((hs_ne (by omega)).trans ((hs_ne (by omega)).trans (hs_eq _ _ _))))) ((hs_ne (by omega)).trans ((hs_ne (by omega)).trans ((hs_ne (by omega)).trans (hs_eq _ _ _)))) ((hs_ne (by omega)).trans ((hs_ne (by omega)).trans (hs_eq _ _ _))) ((hs_ne (by omega)).trans (hs_eq _ _ _)) (hs_eq _ _ _) (by omega) (by omega) (by omega) (by omega) (by omega) (by omega) hso) (Nat.le_of_ble_eq_true rfl) (Nat.le_of_ble_eq_true rfl) (by omega) (by omega) (Nat.le_of_ble_eq_true rfl) GX.no ?_
    rintro _ h2 _ - ⟨rfl, rfl, hk3⟩
    show GW X 33 [some (.ref 40), some (.int (nI b)), some (.int (nI m)), some (.int (nI L))] [.int (untI (codI (chM cs mn m)) (L * (mn m)))] h2 n 0 0
    obtain ⟨hk3K, co2, dg2, rw_2, go2, we2, q46_2, q47_2, q48_2, q49_2, q50_2, hco2, hdg2⟩ := id hk3
    refine g_pop hX dX5_wouldBring_33 rfl ?_
    refine g_aload_n hX dX5_wouldBring_34 rfl rfl ?_
    refine g_getf hX dX5_wouldBring_35 fl_X5_49 ((hk3K _ (by omega)).trans ((hs_ne (by omega)).trans ((hs_ne (by omega)).trans ((hs_ne (by omega)).trans (hs_eq _ _ _))))) rfl ?_
    refine g_callV (As := []) hX dX5_wouldBring_38 cb_X4_allVotes ml_X5_165 im_X4_allVotes se_X4_allVotes rfl rfl ((hk3K _ (by omega)).trans ((hs_ne (by omega)).trans ((hs_ne (by omega)).trans ((hs_ne (by omega)).trans ((hs_ne (by omega)).trans ((hs_ne (by omega)).trans ((hs_ne (by omega)).trans ((hs_ne (by omega)).trans ((hs_ne (by omega)).trans (hs_eq _ _ _)))))))))) ⟨_, rfl, rfl⟩ (kX4_allVotes hst ((hk3K _ (by omega)).trans ((hs_ne (by omega)).trans ((hs_ne (by omega)).trans ((hs_ne (by omega)).trans (hs_eq _ _ _))))) ((hk3K _ (by omega)).trans ((hs_ne (by omega)).trans ((hs_ne (by omega)).trans ((hs_ne (by omega)).trans ((hs_ne (by omega)).trans ((hs_ne (by omega)).trans ((hs_ne (by omega)).trans ((hs_ne (by omega)).trans ((hs_ne (by omega)).trans (hs_eq _ _ _)))))))))) ((hk3K _ (by omega)).trans ((hs_ne (by omega)).trans ((hs_ne (by omega)).trans (hs_eq _ _ _)))) (by omega)) (Nat.le_of_ble_eq_true rfl) (Nat.le_of_ble_eq_true rfl) (by omega) (by omega) (Nat.le_of_ble_eq_true rfl) GX.no (pq ?_)
    show GW X 41 [some (.ref 40), some (.int (nI b)), some (.int (nI m)), some (.int (nI L))] [.int (sumI ((mrI st sk (ddgI (chM cs mn m)) rc b (mmI (chM cs mn m) (L * (mn m)) L) (L * (mn m)) (ti, fa, vt)).2.2) rc)] h2 n 0 0
    refine g_aload_n hX dX5_wouldBring_41 rfl rfl ?_
    refine g_getf hX dX5_wouldBring_42 fl_X5_45 ((hk3K _ (by omega)).trans ((hs_ne (by omega)).trans ((hs_ne (by omega)).trans ((hs_ne (by omega)).trans (hs_eq _ _ _))))) rfl ?_
    refine g_callV (As := []) hX dX5_wouldBring_45 cb_X4_allVotes ml_X5_165 im_X4_allVotes se_X4_allVotes rfl rfl ((hk3K _ (by omega)).trans ((hs_ne (by omega)).trans ((hs_ne (by omega)).trans ((hs_ne (by omega)).trans ((hs_ne (by omega)).trans ((hs_ne (by omega)).trans ((hs_ne (by omega)).trans ((hs_ne (by omega)).trans ((hs_ne (by omega)).trans ((hs_ne (by omega)).trans (s0))))))))))) ⟨_, rfl, rfl⟩ (kX4_allVotes hst ((hk3K _ (by omega)).trans ((hs_ne (by omega)).trans ((hs_ne (by omega)).trans ((hs_ne (by omega)).trans (hs_eq _ _ _))))) ((hk3K _ (by omega)).trans ((hs_ne (by omega)).trans ((hs_ne (by omega)).trans ((hs_ne (by omega)).trans ((hs_ne (by omega)).trans ((hs_ne (by omega)).trans ((hs_ne (by omega)).trans ((hs_ne (by omega)).trans ((hs_ne (by omega)).trans ((hs_ne (by omega)).trans (s0))))))))))) ((hk3K _ (by omega)).trans ((hs_ne (by omega)).trans ((hs_ne (by omega)).trans ((hs_ne (by omega)).trans ((hs_ne (by omega)).trans ((hs_ne (by omega)).trans ((hs_ne (by omega)).trans ((hs_ne (by omega)).trans ((hs_ne (by omega)).trans ((hs_ne (by omega)).trans (svt))))))))))) (by omega)) (Nat.le_of_ble_eq_true rfl) (Nat.le_of_ble_eq_true rfl) (by omega) (by omega) (Nat.le_of_ble_eq_true rfl) GX.no (pq ?_)
    show GW X 48 [some (.ref 40), some (.int (nI b)), some (.int (nI m)), some (.int (nI L))] [.int (sumI vt rc), .int (sumI ((mrI st sk (ddgI (chM cs mn m)) rc b (mmI (chM cs mn m) (L * (mn m)) L) (L * (mn m)) (ti, fa, vt)).2.2) rc)] h2 n 0 0
    refine g_isub hX dX5_wouldBring_48 ?_
    refine g_ireturn hX hr dX5_wouldBring_49 (Nat.le_refl _) (Nat.le_refl _)  ?_
    exact ⟨by rw [mbrI, if_pos c1], rfl, fun j hj => (hk3K j (by omega)).trans ((hs_ne (by omega)).trans ((hs_ne (by omega)).trans ((hs_ne (by omega)).trans ((hs_ne (by omega)).trans ((hs_ne (by omega)).trans ((hs_ne (by omega)).trans ((hs_ne (by omega)).trans ((hs_ne (by omega)).trans ((hs_ne (by omega)).trans (rfl)))))))))), ⟨_, _, _, _, _, _, _, _, _, _, _, ((hk3K _ (by omega)).trans ((hs_ne (by omega)).trans ((hs_ne (by omega)).trans ((hs_ne (by omega)).trans (hs_eq _ _ _))))), q46_2, q47_2, q48_2, q49_2, q50_2, ((hk3K _ (by omega)).trans ((hs_ne (by omega)).trans ((hs_ne (by omega)).trans ((hs_ne (by omega)).trans ((hs_ne (by omega)).trans ((hs_ne (by omega)).trans ((hs_ne (by omega)).trans ((hs_ne (by omega)).trans ((hs_ne (by omega)).trans (hs_eq _ _ _)))))))))), ((hk3K _ (by omega)).trans ((hs_ne (by omega)).trans ((hs_ne (by omega)).trans (hs_eq _ _ _)))), ((hk3K _ (by omega)).trans ((hs_ne (by omega)).trans (hs_eq _ _ _))), ((hk3K _ (by omega)).trans (hs_eq _ _ _)), ((hk3K _ (by omega)).trans ((hs_ne (by omega)).trans ((hs_ne (by omega)).trans ((hs_ne (by omega)).trans ((hs_ne (by omega)).trans (hs_eq _ _ _))))))⟩⟩
  · refine g_sipush (v := (-1000)) hX dX5_wouldBring_12 (by decide) ?_
    refine g_ireturn hX hr dX5_wouldBring_15 (Nat.le_refl _) (Nat.le_refl _)  ?_
    exact ⟨by rw [mbrI, if_neg c1], rfl, fun j hj => rfl, ⟨_, _, _, _, _, _, _, _, _, _, _, m0, mco, mdg, mrw, mgo, mwe, a0, avt, ati, afa, ast⟩⟩
set_option maxRecDepth 20000 in
theorem kX5_would {l : Launch} {K : gw_K} (hst : l.stackTraces = false) {n : Nat} {h : gw_H} {rc mc : Nat} {thr tch frs len dy ady : Int32} {mn : Nat → Nat} {wd sk ws cs co dg rw_ go we vt ti fa st avt ati afa ast : Nat → Int32} {b m L : Nat} (m0 : h 40 = (oB 5 [.int thr, .int (nI rc), .ref 41, .ref 42, .ref 43, .int (nI mc), .ref 44, .ref 45, .int tch, .int frs, .ref 46, .ref 47, .int len, .ref 48, .ref 49, .ref 50, .ref 51, .ref 56])) (mwd : h 41 = (aI 20 wd)) (msk : h 42 = (aI 20 sk)) (mws : h 43 = (aI 18 ws)) (mmn : h 44 = (aI 5 (fun k => nI (mn k)))) (mcs : h 45 = (aI 60 cs)) (mco : h 46 = (aI 201 co)) (mdg : h 47 = (aI 201 dg)) (mrw : h 48 = (aI 6 rw_)) (mgo : h 49 = (aI 6 go)) (mwe : h 50 = (aI 6 we)) (s0 : h 51 = (oB 4 [.int dy, .ref (51 + 1), .ref (51 + 2), .ref (51 + 3), .ref (51 + 4), .ref 40])) (svt : h (51 + 1) = (aI 20 vt)) (sti : h (51 + 2) = (aI 20 ti)) (sfa : h (51 + 3) = (aI 20 fa)) (sst : h (51 + 4) = (aI 20 st)) (a0 : h 56 = (oB 4 [.int ady, .ref (56 + 1), .ref (56 + 2), .ref (56 + 3), .ref (56 + 4), .ref 40])) (avt : h (56 + 1) = (aI 20 avt)) (ati : h (56 + 2) = (aI 20 ati)) (afa : h (56 + 3) = (aI 20 afa)) (ast : h (56 + 4) = (aI 20 ast)) (hn62 : 62 ≤ n) (hm5 : mc ≤ 5) (hrc : rc ≤ 20) (hsi : seatI st rc) (hb3 : b < 3) (hk : m < mc) (hmn : mn m ≤ 12) (hL1 : 1 ≤ L) (hL12 : L ≤ 12)  : Ctr l K mX5_would [.ref 40, .int (nI b), .int (nI m), .int (nI L)] h n 0 0 (PM (some (.int (mbrI vt ti fa st sk (chM cs mn m) rc b (mn m) L))) h n (nI 0) rc mc tch frs) (PX0) := by
  refine Ctr.of hst pn_X5_would (Nat.le_of_ble_eq_true rfl) (fun X hX hr hE => ?_)
  have hX : FX l K X cX5_would RX5 5 126 0 0 := hX
  show GW X 0 [some (.ref 40), some (.int (nI b)), some (.int (nI m)), some (.int (nI L))] [] h n 0 0
  refine g_aload_n hX dX5_would_0 rfl rfl ?_
  refine g_iconst (v := (nI 0)) hX dX5_would_1 (by decide) ?_
  refine g_putI hX dX5_would_2 fl_X5_52 (m0) (Nat.le_of_ble_eq_true rfl) ?_
  show GW X 5 [some (.ref 40), some (.int (nI b)), some (.int (nI m)), some (.int (nI L))] [] (hs h 40 (oB 5 [.int (nI 0), .int (nI rc), .ref 41, .ref 42, .ref 43, .int (nI mc), .ref 44, .ref 45, .int tch, .int frs, .ref 46, .ref 47, .int len, .ref 48, .ref 49, .ref 50, .ref 51, .ref 56])) n 0 0
  refine g_iload_n hX dX5_would_5 rfl rfl ?_
  refine g_iconst (v := (nI 0)) hX dX5_would_6 (by decide) ?_
  refine g_iconst (v := (nI 2)) hX dX5_would_7 (by decide) ?_
  refine g_callS (As := [.int (nI b), .int (nI 0), .int (nI 2)]) hX dX5_would_8 cb_X5_isIn ml_X5_59 st_X5_isIn rfl rfl (kX5_isIn hst (gn_okW (by omega) (by omega) (by omega))) (Nat.le_of_ble_eq_true rfl) (Nat.le_of_ble_eq_true rfl) (by omega) (by omega) (Nat.le_of_ble_eq_true rfl) GX.no (pq ?_)
  show GW X 11 [some (.ref 40), some (.int (nI b)), some (.int (nI m)), some (.int (nI L))] [.int (nI 1)] (hs h 40 (oB 5 [.int (nI 0), .int (nI rc), .ref 41, .ref 42, .ref 43, .int (nI mc), .ref 44, .ref 45, .int tch, .int frs, .ref 46, .ref 47, .int len, .ref 48, .ref 49, .ref 50, .ref 51, .ref 56])) n 0 0
  refine g_if_eq (tgt := 22) hX dX5_would_11 (by decide) (fun c => absurd c (by decide)) (fun _ => ?_)
  refine g_aload_n hX dX5_would_14 rfl rfl ?_
  refine g_iload_n hX dX5_would_15 rfl rfl ?_
  refine g_callV (As := [.int (nI m)]) hX dX5_would_16 cb_X5_isMethod ml_X5_138 im_X5_isMethod se_X5_isMethod rfl rfl (hs_eq _ _ _) ⟨_, rfl, rfl⟩ (kX5_isMethod hst (hs_eq _ _ _) (hk) (by omega)) (Nat.le_of_ble_eq_true rfl) (Nat.le_of_ble_eq_true rfl) (by omega) (by omega) (Nat.le_of_ble_eq_true rfl) GX.no (pq ?_)
  show GW X 19 [some (.ref 40), some (.int (nI b)), some (.int (nI m)), some (.int (nI L))] [.int (nI 1)] (hs h 40 (oB 5 [.int (nI 0), .int (nI rc), .ref 41, .ref 42, .ref 43, .int (nI mc), .ref 44, .ref 45, .int tch, .int frs, .ref 46, .ref 47, .int len, .ref 48, .ref 49, .ref 50, .ref 51, .ref 56])) n 0 0
  refine g_if_ne (tgt := 28) hX dX5_would_19 (by decide) (fun _ => ?_) (fun c => absurd c (by decide))
  refine g_iload_n hX dX5_would_28 rfl rfl ?_
  refine g_iconst (v := (nI 1)) hX dX5_would_29 (by decide) ?_
  refine g_bipush (v := (nI 12)) hX dX5_would_30 (by decide) ?_
  refine g_callS (As := [.int (nI L), .int (nI 1), .int (nI 12)]) hX dX5_would_32 cb_X5_isIn ml_X5_59 st_X5_isIn rfl rfl (kX5_isIn hst (gn_okW hL1 hL12 (by omega))) (Nat.le_of_ble_eq_true rfl) (Nat.le_of_ble_eq_true rfl) (by omega) (by omega) (Nat.le_of_ble_eq_true rfl) GX.no (pq ?_)
  show GW X 35 [some (.ref 40), some (.int (nI b)), some (.int (nI m)), some (.int (nI L))] [.int (nI 1)] (hs h 40 (oB 5 [.int (nI 0), .int (nI rc), .ref 41, .ref 42, .ref 43, .int (nI mc), .ref 44, .ref 45, .int tch, .int frs, .ref 46, .ref 47, .int len, .ref 48, .ref 49, .ref 50, .ref 51, .ref 56])) n 0 0
  refine g_if_eq (tgt := 48) hX dX5_would_35 (by decide) (fun c => absurd c (by decide)) (fun _ => ?_)
  refine g_aload_n hX dX5_would_38 rfl rfl ?_
  refine g_iload_n hX dX5_would_39 rfl rfl ?_
  refine g_iload_n hX dX5_would_40 rfl rfl ?_
  refine g_iload_n hX dX5_would_41 rfl rfl ?_
  refine g_callV (As := [.int (nI b), .int (nI m), .int (nI L)]) hX dX5_would_42 cb_X5_wouldBring ml_X5_168 im_X5_wouldBring se_X5_wouldBring rfl rfl (hs_eq _ _ _) ⟨_, rfl, rfl⟩ (kX5_wouldBring (b := b) (m := m) (L := L) hst (hs_eq _ _ _) ((hs_ne (by omega)).trans (mwd)) ((hs_ne (by omega)).trans (msk)) ((hs_ne (by omega)).trans (mws)) ((hs_ne (by omega)).trans (mmn)) ((hs_ne (by omega)).trans (mcs)) ((hs_ne (by omega)).trans (mco)) ((hs_ne (by omega)).trans (mdg)) ((hs_ne (by omega)).trans (mrw)) ((hs_ne (by omega)).trans (mgo)) ((hs_ne (by omega)).trans (mwe)) ((hs_ne (by omega)).trans (s0)) ((hs_ne (by omega)).trans (svt)) ((hs_ne (by omega)).trans (sti)) ((hs_ne (by omega)).trans (sfa)) ((hs_ne (by omega)).trans (sst)) ((hs_ne (by omega)).trans (a0)) ((hs_ne (by omega)).trans (avt)) ((hs_ne (by omega)).trans (ati)) ((hs_ne (by omega)).trans (afa)) ((hs_ne (by omega)).trans (ast)) (by omega) (by omega) (by omega) hsi (by omega) (by omega) hmn (by omega)) (Nat.le_of_ble_eq_true rfl) (Nat.le_of_ble_eq_true rfl) (by omega) (by omega) (Nat.le_of_ble_eq_true rfl) GX.no ?_
  rintro _ h1 _ - ⟨rfl, rfl, hk2⟩
  show GW X 45 [some (.ref 40), some (.int (nI b)), some (.int (nI m)), some (.int (nI L))] [.int (mbrI vt ti fa st sk (chM cs mn m) rc b (mn m) L)] h1 n 0 0
  obtain ⟨hk2K, len1, ady1, co1, dg1, rw_1, go1, we1, avt1, ati1, afa1, ast1, q40_1, q46_1, q47_1, q48_1, q49_1, q50_1, q56_1, q57_1, q58_1, q59_1, q60_1⟩ := id hk2
  refine g_goto (tgt := 53) hX dX5_would_45 (by decide) ?_
  refine g_ireturn hX hr dX5_would_53 (Nat.le_refl _) (Nat.le_refl _)  ?_
  exact ⟨rfl, rfl, fun j hj => (hk2K j (by omega)).trans ((hs_ne (by omega)).trans (rfl)), ⟨_, _, _, _, _, _, _, _, _, _, _, q40_1, q46_1, q47_1, q48_1, q49_1, q50_1, q56_1, q57_1, q58_1, q59_1, q60_1⟩⟩
