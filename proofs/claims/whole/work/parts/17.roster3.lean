set_option maxRecDepth 20000 in
theorem kX3_advise_b {l : Launch} {K : gw_K} (hst : l.stackTraces = false) {rc mc n : Nat} {dy tch frs : Int32} {h : gw_H} {a : Int32} (r0 : h 0 = (oB 3 [.ref 1, .ref 10, .ref 19, .ref 24, .int (nI mc), .int tch, .int frs])) (f0 : h 1 = (oB 2 [.ref (1 + 1), .ref (1 + 2), .ref (1 + 3), .ref (1 + 4), .ref (1 + 5), .ref (1 + 6), .ref (1 + 7), .ref (1 + 8), .int (nI rc), .int dy])) (hz : a < 0 ∨ nI 3 ≤ a) : Ctr l K mX3_advise [.ref 0, .int a] h n 1 6 (fun _ _ _ => False) (PXQ "java/lang/IndexOutOfBoundsException" h n) := by
  refine Ctr.of hst pn_X3_advise (Nat.le_of_ble_eq_true rfl) (fun X hX hr hE => ?_)
  have hX : FX l K X cX3_advise RX3 8 132 1 6 := hX
  show GW X 0 [some (.ref 0), some (.int a), none, none, none, none, none] [] h n 0 0
  refine g_iload_n hX dX3_advise_0 rfl rfl ?_
  refine g_iconst (v := (nI 3)) hX dX3_advise_1 (by decide) ?_
  refine g_callS (As := [.int a, .int (nI 3)]) hX dX3_advise_2 cb_X3_requireIndex ml_X3_33 st_X3_requireIndex rfl rfl (kX3_requireIndex_x hst (hz)) (Nat.le_of_ble_eq_true rfl) (Nat.le_of_ble_eq_true rfl) (by omega) (by omega) (Nat.le_of_ble_eq_true rfl) ?_ ?_
  · refine px ?_
    refine g_out hX hr hE.1 (by omega) (by omega) ?_
    exact ⟨rfl, rfl, rfl⟩
  · exact fun _ _ _ _ h => h.elim
set_option maxRecDepth 20000 in
theorem kX3_advise {l : Launch} {K : gw_K} (hst : l.stackTraces = false) {rc mc n : Nat} {dy tch frs : Int32} {h : gw_H} {wd sk vt ti fa st ws : Nat → Int32} {orc : Nat} {ody : Int32} {owd osk ovt oti ofa otf ost ows : Nat → Int32} {pl mv ma : Nat → Int32} {sn : Nat → Int64} {cm rr : Int32} {b : Nat} {ln lds : Nat → Nat} {rws frx hos : Nat → Int32} {chs dgs : Nat → Nat → Int32} (r0 : h 0 = (oB 3 [.ref 1, .ref 10, .ref 19, .ref 24, .int (nI mc), .int tch, .int frs])) (f0 : h 1 = (oB 2 [.ref (1 + 1), .ref (1 + 2), .ref (1 + 3), .ref (1 + 4), .ref (1 + 5), .ref (1 + 6), .ref (1 + 7), .ref (1 + 8), .int (nI rc), .int dy])) (fwd : h (1 + 1) = (aI 20 wd)) (fsk : h (1 + 2) = (aI 20 sk)) (fvt : h (1 + 3) = (aI 20 vt)) (fti : h (1 + 4) = (aI 20 ti)) (ffa : h (1 + 5) = (aI 20 fa)) (fst : h (1 + 7) = (aI 20 st)) (fws : h (1 + 8) = (aI 18 ws)) (o0 : h 10 = (oB 2 [.ref (10 + 1), .ref (10 + 2), .ref (10 + 3), .ref (10 + 4), .ref (10 + 5), .ref (10 + 6), .ref (10 + 7), .ref (10 + 8), .int (nI orc), .int ody])) (owd : h (10 + 1) = (aI 20 owd)) (osk : h (10 + 2) = (aI 20 osk)) (ovt : h (10 + 3) = (aI 20 ovt)) (oti : h (10 + 4) = (aI 20 oti)) (ofa : h (10 + 5) = (aI 20 ofa)) (otf : h (10 + 6) = (aI 20 otf)) (ost : h (10 + 7) = (aI 20 ost)) (ows : h (10 + 8) = (aI 18 ows)) (g0 : h 19 = (oB 1 [.ref (19 + 1), .ref (19 + 2), .ref (19 + 3), .ref (19 + 4), .int cm, .int rr])) (g1 : h (19 + 1) = (aI 6 pl)) (g2 : h (19 + 2) = (aI 6 mv)) (g3 : h (19 + 3) = (aI 6 ma)) (g4 : h (19 + 4) = (aJ 122 sn)) (la : h 24 = (aQ 5 (fun j => some (25 + 3 * j)))) (hl : ∀ k c, k < mc → c = 25 + 3 * k → h c = (oB 0 [.ref (c + 1), .ref (c + 2), .int (nI (ln k)), .int (nI (lds k)), .int (rws k), .int (frx k), .int (hos k)]) ∧ h (c + 1) = aI 12 (chs k) ∧ h (c + 2) = aI 6 (dgs k)) (hm5 : mc ≤ 5) (hln : ∀ k, k < mc → ln k ≤ 12) (hlds : ∀ k, k < mc → 1 ≤ lds k ∧ lds k ≤ 6) (hchs : ∀ k, k < mc → ∀ i, i < ln k → vchg (chs k i)) (hrc : rc ≤ 20) (hb3 : b < 3) (hso : ∀ r, r < rc → seatOK (st r)) : Ctr l K mX3_advise [.ref 0, .int (nI b)] h n 1 6 (PS (some (.int (itr (advP wd vt ws st sk ti fa rc b chs ln lds) mc (-1, nI 0)).1)) h n) (PX0) := by
  refine Ctr.of hst pn_X3_advise (Nat.le_of_ble_eq_true rfl) (fun X hX hr hE => ?_)
  have hX : FX l K X cX3_advise RX3 8 132 1 6 := hX
  show GW X 0 [some (.ref 0), some (.int (nI b)), none, none, none, none, none] [] h n 0 0
  refine g_iload_n hX dX3_advise_0 rfl rfl ?_
  refine g_iconst (v := (nI 3)) hX dX3_advise_1 (by decide) ?_
  refine g_callS (As := [.int (nI b), .int (nI 3)]) hX dX3_advise_2 cb_X3_requireIndex ml_X3_33 st_X3_requireIndex rfl rfl (kX3_requireIndex hst (gn_okI hb3 (by omega))) (Nat.le_of_ble_eq_true rfl) (Nat.le_of_ble_eq_true rfl) (by omega) (by omega) (Nat.le_of_ble_eq_true rfl) GX.no (pq ?_)
  show GW X 5 [some (.ref 0), some (.int (nI b)), none, none, none, none, none] [] h n 0 0
  refine g_iconst (v := (-1)) hX dX3_advise_5 (by decide) ?_
  refine g_istore_n (i := 2) hX dX3_advise_6 rfl (Nat.le_of_ble_eq_true rfl) rfl ?_
  refine g_iconst (v := (nI 0)) hX dX3_advise_7 (by decide) ?_
  refine g_istore_n (i := 3) hX dX3_advise_8 rfl (Nat.le_of_ble_eq_true rfl) rfl ?_
  refine g_iconst (v := (nI 0)) hX dX3_advise_9 (by decide) ?_
  refine g_istore hX dX3_advise_10 (Nat.le_of_ble_eq_true rfl) rfl ?_
  refine (show ∀ h2, SCR h h2 → GW X 12 [some (.ref 0), some (.int (nI b)), some (.int ((-1, nI 0).1)), some (.int ((-1, nI 0).2)), some (.int (nI 0)), none, none] [] h2 n 0 0 from g_for (P := fun (i : Nat) (s : Int32 × Int32) => ∀ h2, SCR h h2 → GW X 12 [some (.ref 0), some (.int (nI b)), some (.int s.1), some (.int s.2), some (.int (nI i)), none, none] [] h2 n 0 0) (step := fun i s => advP wd vt ws st sk ti fa rc b chs ln lds i s) mc (-1, nI 0) ?_ ?_) h ⟨fun j hj => rfl, ⟨_, _, _, _, _, _, _, _, _, _, o0, owd, osk, ovt, oti, ofa, otf, ost, ows⟩, ⟨_, _, _, _, _, _, g0, g1, g2, g3, g4⟩⟩
  · intro i1 ⟨xs2, ys2⟩ hi1 es2 ihi1 h3 hk4
    obtain ⟨hk4K, ⟨owd3, osk3, ovt3, oti3, ofa3, otf3, ost3, ows3, orc3, ody3, o0_3, o1_3, o2_3, o3_3, o4_3, o5_3, o6_3, o7_3, o8_3⟩, ⟨pl3, mv3, ma3, sn3, cm3, rr3, g0_3, g1_3, g2_3, g3_3, g4_3⟩⟩ := hk4
    show GW X 12 [some (.ref 0), some (.int (nI b)), some (.int xs2), some (.int ys2), some (.int (nI i1)), none, none] [] h3 n 0 0
    have ihi1 : ∀ h9, SCR h h9 → GW X 12 [some (.ref 0), some (.int (nI b)), some (.int ((advP wd vt ws st sk ti fa rc b chs ln lds i1 (xs2, ys2)).1)), some (.int ((advP wd vt ws st sk ti fa rc b chs ln lds i1 (xs2, ys2)).2)), some (.int (nI (i1 + 1))), none, none] [] h9 n 0 0 := ihi1
    obtain ⟨c_i1, hc_c_i1⟩ : ∃ c, c = 25 + 3 * i1 := ⟨_, rfl⟩
    obtain ⟨l0_i1, l1_i1, l2_i1⟩ := hl i1 c_i1 hi1 hc_c_i1
    have hln_i1 := hln i1 hi1
    have hlds_i1 := hlds i1 hi1
    have hchs_i1 := hchs i1 hi1
    refine g_iload hX dX3_advise_12 rfl ?_
    refine g_aload_n hX dX3_advise_14 rfl rfl ?_
    refine g_getf hX dX3_advise_15 fl_X3_110 ((hk4K _ (by omega)).trans (r0)) rfl ?_
    refine g_icmp_geN (tgt := 61) hX dX3_advise_18 (by decide) (by omega) (fun c5 => absurd c5 (by omega)) (fun c5 => ?_)
    refine g_aload_n hX dX3_advise_21 rfl rfl ?_
    refine g_iload hX dX3_advise_22 rfl ?_
    refine g_callV (As := [.int (nI i1)]) hX dX3_advise_24 cb_X3_listNumbered ml_X3_115 im_X3_listNumbered se_X3_listNumbered rfl rfl ((hk4K _ (by omega)).trans (r0)) ⟨_, rfl, rfl⟩ (kX3_listNumbered hst ((hk4K _ (by omega)).trans (r0)) ((hk4K _ (by omega)).trans (la)) (by omega) (by omega) (hc_c_i1)) (Nat.le_of_ble_eq_true rfl) (Nat.le_of_ble_eq_true rfl) (by omega) (by omega) (Nat.le_of_ble_eq_true rfl) GX.no (pq ?_)
    show GW X 27 [some (.ref 0), some (.int (nI b)), some (.int xs2), some (.int ys2), some (.int (nI i1)), none, none] [.ref c_i1] h3 n 0 0
    refine g_astore hX dX3_advise_27 (Nat.le_of_ble_eq_true rfl) rfl ?_
    refine g_aload_n hX dX3_advise_29 rfl rfl ?_
    refine g_iload_n hX dX3_advise_30 rfl rfl ?_
    refine g_aload hX dX3_advise_31 rfl ?_
    refine g_aload hX dX3_advise_33 rfl ?_
    refine g_getf hX dX3_advise_35 fl_X3_177 ((hk4K _ (by omega)).trans (l0_i1)) rfl ?_
    refine g_callV (As := [.int (nI b), .ref c_i1, .int (nI (lds i1))]) hX dX3_advise_38 cb_X3_votesBrought ml_X3_173 im_X3_votesBrought se_X3_votesBrought rfl rfl ((hk4K _ (by omega)).trans (r0)) ⟨_, rfl, rfl⟩ (kX3_votesBrought hst ((hk4K _ (by omega)).trans (l0_i1)) ((hk4K _ (by omega)).trans (l1_i1)) ((hk4K _ (by omega)).trans (r0)) ((hk4K _ (by omega)).trans (f0)) ((hk4K _ (by omega)).trans (fwd)) ((hk4K _ (by omega)).trans (fsk)) ((hk4K _ (by omega)).trans (fvt)) ((hk4K _ (by omega)).trans (fti)) ((hk4K _ (by omega)).trans (ffa)) ((hk4K _ (by omega)).trans (fst)) ((hk4K _ (by omega)).trans (fws)) (o0_3) (o1_3) (o2_3) (o3_3) (o4_3) (o5_3) (o6_3) (o7_3) (o8_3) (g0_3) (g1_3) (g2_3) (g3_3) (g4_3) (by omega) (by omega) (by omega) (by omega) (by omega) hso hchs_i1) (Nat.le_of_ble_eq_true rfl) (Nat.le_of_ble_eq_true rfl) (by omega) (by omega) (Nat.le_of_ble_eq_true rfl) GX.no ?_
    rintro _ h6 _ - ⟨rfl, rfl, hk7⟩
    show GW X 41 [some (.ref 0), some (.int (nI b)), some (.int xs2), some (.int ys2), some (.int (nI i1)), some (.ref c_i1), none] [.int (brought wd vt ws st sk ti fa (chs i1) ma3 rc b (ln i1) (lds i1))] h6 n 0 0
    obtain ⟨hk7K, ⟨owd6, osk6, ovt6, oti6, ofa6, otf6, ost6, ows6, orc6, ody6, o0_6, o1_6, o2_6, o3_6, o4_6, o5_6, o6_6, o7_6, o8_6⟩, ⟨pl6, mv6, ma6, sn6, cm6, rr6, g0_6, g1_6, g2_6, g3_6, g4_6⟩⟩ := hk7
    refine g_top (v' := .int (brought wd vt ws st sk ti fa (chs i1) ma0 rc b (ln i1) (lds i1))) (by rw [brought_ma _ (by omega)]) ?_
    refine g_istore hX dX3_advise_41 (Nat.le_of_ble_eq_true rfl) rfl ?_
    refine g_iload hX dX3_advise_43 rfl ?_
    refine g_iload_n hX dX3_advise_45 rfl rfl ?_
    refine g_icmp_le (tgt := 55) hX dX3_advise_46 (by decide) (fun c8 => ?_) (fun c8 => ?_)
    · refine g_iinc (v := (nI (i1 + 1))) hX dX3_advise_55 rfl rfl (gn_inc _ _) ?_
      refine g_goto (tgt := 12) hX dX3_advise_58 (by decide) ?_
      refine g_kill 5 ?_
      refine g_kill 6 ?_
      exact g_cv (ihi1 _ ⟨fun j hj => (hk7K j hj).trans ((hk4K j hj).trans (rfl)), ⟨_, _, _, _, _, _, _, _, _, _, o0_6, o1_6, o2_6, o3_6, o4_6, o5_6, o6_6, o7_6, o8_6⟩, ⟨_, _, _, _, _, _, g0_6, g1_6, g2_6, g3_6, g4_6⟩⟩) (by simp [advP, c5, c8, gn_ile.mpr c8]) rfl
    · refine g_iload hX dX3_advise_49 rfl ?_
      refine g_istore_n (i := 3) hX dX3_advise_51 rfl (Nat.le_of_ble_eq_true rfl) rfl ?_
      refine g_iload hX dX3_advise_52 rfl ?_
      refine g_istore_n (i := 2) hX dX3_advise_54 rfl (Nat.le_of_ble_eq_true rfl) rfl ?_
      refine g_iinc (v := (nI (i1 + 1))) hX dX3_advise_55 rfl rfl (gn_inc _ _) ?_
      refine g_goto (tgt := 12) hX dX3_advise_58 (by decide) ?_
      refine g_kill 5 ?_
      refine g_kill 6 ?_
      exact g_cv (ihi1 _ ⟨fun j hj => (hk7K j hj).trans ((hk4K j hj).trans (rfl)), ⟨_, _, _, _, _, _, _, _, _, _, o0_6, o1_6, o2_6, o3_6, o4_6, o5_6, o6_6, o7_6, o8_6⟩, ⟨_, _, _, _, _, _, g0_6, g1_6, g2_6, g3_6, g4_6⟩⟩) (by simp [advP, c5, c8, gn_ilt.mp c8]) rfl
  · intro h9 hk10
    obtain ⟨hk10K, ⟨owd9, osk9, ovt9, oti9, ofa9, otf9, ost9, ows9, orc9, ody9, o0_9, o1_9, o2_9, o3_9, o4_9, o5_9, o6_9, o7_9, o8_9⟩, ⟨pl9, mv9, ma9, sn9, cm9, rr9, g0_9, g1_9, g2_9, g3_9, g4_9⟩⟩ := hk10
    show GW X 12 [some (.ref 0), some (.int (nI b)), some (.int ((itr (fun i s => advP wd vt ws st sk ti fa rc b chs ln lds i s) mc (-1, nI 0)).1)), some (.int ((itr (fun i s => advP wd vt ws st sk ti fa rc b chs ln lds i s) mc (-1, nI 0)).2)), some (.int (nI mc)), none, none] [] h9 n 0 0
    refine g_iload hX dX3_advise_12 rfl ?_
    refine g_aload_n hX dX3_advise_14 rfl rfl ?_
    refine g_getf hX dX3_advise_15 fl_X3_110 ((hk10K _ (by omega)).trans (r0)) rfl ?_
    refine g_icmp_geN (tgt := 61) hX dX3_advise_18 (by decide) (by omega) (fun c11 => ?_) (fun c11 => absurd c11 (by omega))
    refine g_iload_n hX dX3_advise_61 rfl rfl ?_
    refine g_ireturn hX hr dX3_advise_62 (by omega) (by omega)  ?_
    exact ⟨rfl, rfl, fun j hj => (hk10K j hj).trans (rfl), ⟨_, _, _, _, _, _, _, _, _, _, o0_9, o1_9, o2_9, o3_9, o4_9, o5_9, o6_9, o7_9, o8_9⟩, ⟨_, _, _, _, _, _, g0_9, g1_9, g2_9, g3_9, g4_9⟩⟩
