set_option maxRecDepth 20000 in
theorem kX3_advise_b {l : Launch} {K : gw_K} (hst : l.stackTraces = false) {rc mc n : Nat} {dy tch frs : Int32} {h : gw_H} {a : Int32} (r0 : h 0 = (oB 3 [.ref 1, .ref 10, .ref 19, .ref 24, .int (nI mc), .int tch, .int frs])) (f0 : h 1 = (oB 2 [.ref (1 + 1), .ref (1 + 2), .ref (1 + 3), .ref (1 + 4), .ref (1 + 5), .ref (1 + 6), .ref (1 + 7), .ref (1 + 8), .int (nI rc), .int dy])) (hz : a < 0 ∨ nI 3 ≤ a) : Ctr l K mX3_advise [.ref 0, .int a] h n 1 6 (fun _ _ _ => False) (PXQ "java/lang/IndexOutOfBoundsException" h n) := by
  refine Ctr.of hst pn_X3_advise (Nat.le_of_ble_eq_true rfl) (fun X hX hr hE => ?_)
  have hX : FX l K X cX3_advise RX3 8 132 1 6 := hX
  show GW X 0 [some (.ref 0), some (.int a), none, none, none, none, none] [] h n 0 0
  refine g_iload_n hX dX3_advise_0 rfl rfl ?_
  refine g_iconst (v := (nI 3)) hX dX3_advise_1 (by decide) ?_
  refine g_callS (As := [.int a, .int (nI 3)]) hX dX3_advise_2 cb_X3_requireIndex ml_X3_33 st_X3_requireIndex rfl rfl (kX3_requireIndex_x hst (hz)) (Nat.le_of_ble_eq_true rfl) (Nat.le_of_ble_eq_true rfl) (by omega) (by omega) (Nat.le_of_ble_eq_true rfl) ?_ ?_
  · refine px ?_
    refine g_out hX hr hE.1 (by omega) (by omega) ?_
    exact ⟨rfl, rfl, rfl⟩
  · exact fun _ _ _ _ h => h.elim
set_option maxRecDepth 20000 in
theorem kX3_advise {l : Launch} {K : gw_K} (hst : l.stackTraces = false) {rc mc n : Nat} {dy tch frs : Int32} {h : gw_H} {wd sk vt ti fa st ws : Nat → Int32} {orc : Nat} {ody : Int32} {owd osk ovt oti ofa otf ost ows : Nat → Int32} {pl mv ma : Nat → Int32} {sn : Nat → Int64} {cm rr : Int32} {b : Nat} {ln lds : Nat → Nat} {rws frx hos : Nat → Int32} {chs dgs : Nat → Nat → Int32} (r0 : h 0 = (oB 3 [.ref 1, .ref 10, .ref 19, .ref 24, .int (nI mc), .int tch, .int frs])) (f0 : h 1 = (oB 2 [.ref (1 + 1), .ref (1 + 2), .ref (1 + 3), .ref (1 + 4), .ref (1 + 5), .ref (1 + 6), .ref (1 + 7), .ref (1 + 8), .int (nI rc), .int dy])) (fwd : h (1 + 1) = (aI 20 wd)) (fsk : h (1 + 2) = (aI 20 sk)) (fvt : h (1 + 3) = (aI 20 vt)) (fti : h (1 + 4) = (aI 20 ti)) (ffa : h (1 + 5) = (aI 20 fa)) (fst : h (1 + 7) = (aI 20 st)) (fws : h (1 + 8) = (aI 18 ws)) (o0 : h 10 = (oB 2 [.ref (10 + 1), .ref (10 + 2), .ref (10 + 3), .ref (10 + 4), .ref (10 + 5), .ref (10 + 6), .ref (10 + 7), .ref (10 + 8), .int (nI orc), .int ody])) (owd : h (10 + 1) = (aI 20 owd)) (osk : h (10 + 2) = (aI 20 osk)) (ovt : h (10 + 3) = (aI 20 ovt)) (oti : h (10 + 4) = (aI 20 oti)) (ofa : h (10 + 5) = (aI 20 ofa)) (otf : h (10 + 6) = (aI 20 otf)) (ost : h (10 + 7) = (aI 20 ost)) (ows : h (10 + 8) = (aI 18 ows)) (g0 : h 19 = (oB 1 [.ref (19 + 1), .ref (19 + 2), .ref (19 + 3), .ref (19 + 4), .int cm, .int rr])) (g1 : h (19 + 1) = (aI 6 pl)) (g2 : h (19 + 2) = (aI 6 mv)) (g3 : h (19 + 3) = (aI 6 ma)) (g4 : h (19 + 4) = (aJ 122 sn)) (la : h 24 = (aQ 5 lsF)) (hl : ∀ k c, k < mc → c = 25 + 3 * k → h c = (oB 0 [.ref (c + 1), .ref (c + 2), .int (nI (ln k)), .int (nI (lds k)), .int (rws k), .int (frx k), .int (hos k)]) ∧ h (c + 1) = aI 12 (chs k) ∧ h (c + 2) = aI 6 (dgs k)) (hm5 : mc ≤ 5) (hln : ∀ k, k < mc → ln k ≤ 12) (hlds : ∀ k, k < mc → 1 ≤ lds k ∧ lds k ≤ 6) (hchs : ∀ k, k < mc → ∀ i, i < ln k → vchg (chs k i)) (hrc : rc ≤ 20) (hb3 : b < 3) (hso : ∀ r, r < rc → seatOK (st r)) : Ctr l K mX3_advise [.ref 0, .int (nI b)] h n 1 6 (PS (some (.int (itr (advP wd vt ws st sk ti fa rc b chs ln lds) mc (-1, nI 0)).1)) h n) (PX0) := by
  refine Ctr.of hst pn_X3_advise (Nat.le_of_ble_eq_true rfl) (fun X hX hr hE => ?_)
  have hX : FX l K X cX3_advise RX3 8 132 1 6 := hX
  show GW X 0 [some (.ref 0), some (.int (nI b)), none, none, none, none, none] [] h n 0 0
  refine g_iload_n hX dX3_advise_0 rfl rfl ?_
  refine g_iconst (v := (nI 3)) hX dX3_advise_1 (by decide) ?_
  refine g_callS (As := [.int (nI b), .int (nI 3)]) hX dX3_advise_2 cb_X3_requireIndex ml_X3_33 st_X3_requireIndex rfl rfl (kX3_requireIndex hst (gn_okI hb3 (by omega))) (Nat.le_of_ble_eq_true rfl) (Nat.le_of_ble_eq_true rfl) (by omega) (by omega) (Nat.le_of_ble_eq_true rfl) GX.no (pq ?_)
  show GW X 5 [some (.ref 0), some (.int (nI b)), none, none, none, none, none] [] h n 0 0
  refine g_iconst (v := (-1)) hX dX3_advise_5 (by decide) ?_
  refine g_istore_n (i := 2) hX dX3_advise_6 rfl (Nat.le_of_ble_eq_true rfl) rfl ?_
  refine g_iconst (v := (nI 0)) hX dX3_advise_7 (by decide) ?_
  refine g_istore_n (i := 3) hX dX3_advise_8 rfl (Nat.le_of_ble_eq_true rfl) rfl ?_
  refine g_iconst (v := (nI 0)) hX dX3_advise_9 (by decide) ?_
  refine g_istore hX dX3_advise_10 (Nat.le_of_ble_eq_true rfl) rfl ?_
  refine (show ∀ h2, SCR h h2 → GW X 12 [some (.ref 0), some (.int (nI b)), some (.int ((-1, nI 0).1)), some (.int ((-1, nI 0).2)), some (.int (nI 0)), none, none] [] h2 n 0 0 from g_for (P := fun (i : Nat) (s : Int32 × Int32) => ∀ h2, SCR h h2 → GW X 12 [some (.ref 0), some (.int (nI b)), some (.int s.1), some (.int s.2), some (.int (nI i)), none, none] [] h2 n 0 0) (step := fun i s => advP wd vt ws st sk ti fa rc b chs ln lds i s) mc (-1, nI 0) ?_ ?_) h ⟨fun j hj => rfl, ⟨_, _, _, _, _, _, _, _, _, _, o0, owd, osk, ovt, oti, ofa, otf, ost, ows⟩, ⟨_, _, _, _, _, _, g0, g1, g2, g3, g4⟩⟩
  · intro i1 ⟨xs2, ys2⟩ hi1 es2 ihi1 h3 hk4
    obtain ⟨hk4K, ⟨owd3, osk3, ovt3, oti3, ofa3, otf3, ost3, ows3, orc3, ody3, o0_3, o1_3, o2_3, o3_3, o4_3, o5_3, o6_3, o7_3, o8_3⟩, ⟨pl3, mv3, ma3, sn3, cm3, rr3, g0_3, g1_3, g2_3, g3_3, g4_3⟩⟩ := hk4
    show GW X 12 [some (.ref 0), some (.int (nI b)), some (.int xs2), some (.int ys2), some (.int (nI i1)), none, none] [] h3 n 0 0
    have ihi1 : ∀ h9, SCR h h9 → GW X 12 [some (.ref 0), some (.int (nI b)), some (.int ((advP wd vt ws st sk ti fa rc b chs ln lds i1 (xs2, ys2)).1)), some (.int ((advP wd vt ws st sk ti fa rc b chs ln lds i1 (xs2, ys2)).2)), some (.int (nI (i1 + 1))), none, none] [] h9 n 0 0 := ihi1
    obtain ⟨c_i1, hc_c_i1⟩ : ∃ c, c = 25 + 3 * i1 := ⟨_, rfl⟩
    obtain ⟨l0_i1, l1_i1, l2_i1⟩ := hl i1 c_i1 hi1 hc_c_i1
    have hln_i1 := hln i1 hi1
    have hlds_i1 := hlds i1 hi1
    have hchs_i1 := hchs i1 hi1
    refine g_iload hX dX3_advise_12 rfl ?_
    refine g_aload_n hX dX3_advise_14 rfl rfl ?_
    refine g_getf hX dX3_advise_15 fl_X3_110 ((hk4K _ (by omega)).trans (r0)) rfl ?_
    refine g_icmp_geN (tgt := 61) hX dX3_advise_18 (by decide) (by omega) (fun c5 => absurd c5 (by omega)) (fun c5 => ?_)
    refine g_aload_n hX dX3_advise_21 rfl rfl ?_
    refine g_iload hX dX3_advise_22 rfl ?_
    refine g_callV (As := [.int (nI i1)]) hX dX3_advise_24 cb_X3_listNumbered ml_X3_115 im_X3_listNumbered se_X3_listNumbered rfl rfl ((hk4K _ (by omega)).trans (r0)) ⟨_, rfl, rfl⟩ (kX3_listNumbered hst ((hk4K _ (by omega)).trans (r0)) ((hk4K _ (by omega)).trans (la)) (by omega) (by omega) (hc_c_i1)) (Nat.le_of_ble_eq_true rfl) (Nat.le_of_ble_eq_true rfl) (by omega) (by omega) (Nat.le_of_ble_eq_true rfl) GX.no (pq ?_)
    show GW X 27 [some (.ref 0), some (.int (nI b)), some (.int xs2), some (.int ys2), some (.int (nI i1)), none, none] [.ref c_i1] h3 n 0 0
    refine g_astore hX dX3_advise_27 (Nat.le_of_ble_eq_true rfl) rfl ?_
    refine g_aload_n hX dX3_advise_29 rfl rfl ?_
    refine g_iload_n hX dX3_advise_30 rfl rfl ?_
    refine g_aload hX dX3_advise_31 rfl ?_
    refine g_aload hX dX3_advise_33 rfl ?_
    refine g_getf hX dX3_advise_35 fl_X3_177 ((hk4K _ (by omega)).trans (l0_i1)) rfl ?_
    refine g_callV (As := [.int (nI b), .ref c_i1, .int (nI (lds i1))]) hX dX3_advise_38 cb_X3_votesBrought ml_X3_173 im_X3_votesBrought se_X3_votesBrought rfl rfl ((hk4K _ (by omega)).trans (r0)) ⟨_, rfl, rfl⟩ (kX3_votesBrought hst ((hk4K _ (by omega)).trans (l0_i1)) ((hk4K _ (by omega)).trans (l1_i1)) ((hk4K _ (by omega)).trans (r0)) ((hk4K _ (by omega)).trans (f0)) ((hk4K _ (by omega)).trans (fwd)) ((hk4K _ (by omega)).trans (fsk)) ((hk4K _ (by omega)).trans (fvt)) ((hk4K _ (by omega)).trans (fti)) ((hk4K _ (by omega)).trans (ffa)) ((hk4K _ (by omega)).trans (fst)) ((hk4K _ (by omega)).trans (fws)) (o0_3) (o1_3) (o2_3) (o3_3) (o4_3) (o5_3) (o6_3) (o7_3) (o8_3) (g0_3) (g1_3) (g2_3) (g3_3) (g4_3) (by omega) (by omega) (by omega) (by omega) (by omega) hso hchs_i1) (Nat.le_of_ble_eq_true rfl) (Nat.le_of_ble_eq_true rfl) (by omega) (by omega) (Nat.le_of_ble_eq_true rfl) GX.no ?_
    rintro _ h6 _ - ⟨rfl, rfl, hk7⟩
    show GW X 41 [some (.ref 0), some (.int (nI b)), some (.int xs2), some (.int ys2), some (.int (nI i1)), some (.ref c_i1), none] [.int (brought wd vt ws st sk ti fa (chs i1) ma3 rc b (ln i1) (lds i1))] h6 n 0 0
    obtain ⟨hk7K, ⟨owd6, osk6, ovt6, oti6, ofa6, otf6, ost6, ows6, orc6, ody6, o0_6, o1_6, o2_6, o3_6, o4_6, o5_6, o6_6, o7_6, o8_6⟩, ⟨pl6, mv6, ma6, sn6, cm6, rr6, g0_6, g1_6, g2_6, g3_6, g4_6⟩⟩ := hk7
    refine g_top (v' := .int (brought wd vt ws st sk ti fa (chs i1) ma0 rc b (ln i1) (lds i1))) (by rw [brought_ma _ (by omega)]) ?_
    refine g_istore hX dX3_advise_41 (Nat.le_of_ble_eq_true rfl) rfl ?_
    refine g_iload hX dX3_advise_43 rfl ?_
    refine g_iload_n hX dX3_advise_45 rfl rfl ?_
    refine g_icmp_le (tgt := 55) hX dX3_advise_46 (by decide) (fun c8 => ?_) (fun c8 => ?_)
    · refine g_iinc (v := (nI (i1 + 1))) hX dX3_advise_55 rfl rfl (gn_inc _ _) ?_
      refine g_goto (tgt := 12) hX dX3_advise_58 (by decide) ?_
      refine g_kill 5 ?_
      refine g_kill 6 ?_
      exact g_cv (ihi1 _ ⟨fun j hj => (hk7K j hj).trans ((hk4K j hj).trans (rfl)), ⟨_, _, _, _, _, _, _, _, _, _, o0_6, o1_6, o2_6, o3_6, o4_6, o5_6, o6_6, o7_6, o8_6⟩, ⟨_, _, _, _, _, _, g0_6, g1_6, g2_6, g3_6, g4_6⟩⟩) (by simp [advP, c5, c8, gn_ile.mpr c8]) rfl
    · refine g_iload hX dX3_advise_49 rfl ?_
      refine g_istore_n (i := 3) hX dX3_advise_51 rfl (Nat.le_of_ble_eq_true rfl) rfl ?_
      refine g_iload hX dX3_advise_52 rfl ?_
      refine g_istore_n (i := 2) hX dX3_advise_54 rfl (Nat.le_of_ble_eq_true rfl) rfl ?_
      refine g_iinc (v := (nI (i1 + 1))) hX dX3_advise_55 rfl rfl (gn_inc _ _) ?_
      refine g_goto (tgt := 12) hX dX3_advise_58 (by decide) ?_
      refine g_kill 5 ?_
      refine g_kill 6 ?_
      exact g_cv (ihi1 _ ⟨fun j hj => (hk7K j hj).trans ((hk4K j hj).trans (rfl)), ⟨_, _, _, _, _, _, _, _, _, _, o0_6, o1_6, o2_6, o3_6, o4_6, o5_6, o6_6, o7_6, o8_6⟩, ⟨_, _, _, _, _, _, g0_6, g1_6, g2_6, g3_6, g4_6⟩⟩) (by simp [advP, c5, c8, gn_ilt.mp c8]) rfl
  · intro h9 hk10
    obtain ⟨hk10K, ⟨owd9, osk9, ovt9, oti9, ofa9, otf9, ost9, ows9, orc9, ody9, o0_9, o1_9, o2_9, o3_9, o4_9, o5_9, o6_9, o7_9, o8_9⟩, ⟨pl9, mv9, ma9, sn9, cm9, rr9, g0_9, g1_9, g2_9, g3_9, g4_9⟩⟩ := hk10
    show GW X 12 [some (.ref 0), some (.int (nI b)), some (.int ((itr (fun i s => advP wd vt ws st sk ti fa rc b chs ln lds i s) mc (-1, nI 0)).1)), some (.int ((itr (fun i s => advP wd vt ws st sk ti fa rc b chs ln lds i s) mc (-1, nI 0)).2)), some (.int (nI mc)), none, none] [] h9 n 0 0
    refine g_iload hX dX3_advise_12 rfl ?_
    refine g_aload_n hX dX3_advise_14 rfl rfl ?_
    refine g_getf hX dX3_advise_15 fl_X3_110 ((hk10K _ (by omega)).trans (r0)) rfl ?_
    refine g_icmp_geN (tgt := 61) hX dX3_advise_18 (by decide) (by omega) (fun c11 => ?_) (fun c11 => absurd c11 (by omega))
    refine g_iload_n hX dX3_advise_61 rfl rfl ?_
    refine g_ireturn hX hr dX3_advise_62 (by omega) (by omega)  ?_
    exact ⟨rfl, rfl, fun j hj => (hk10K j hj).trans (rfl), ⟨_, _, _, _, _, _, _, _, _, _, o0_9, o1_9, o2_9, o3_9, o4_9, o5_9, o6_9, o7_9, o8_9⟩, ⟨_, _, _, _, _, _, g0_9, g1_9, g2_9, g3_9, g4_9⟩⟩
set_option maxRecDepth 20000 in
theorem kX3_digestRingers {l : Launch} {K : gw_K} (hst : l.stackTraces = false) {rc mc n : Nat} {dy tch frs : Int32} {h : gw_H} {wd sk vt ti fa st : Nat → Int32} {d0 : Int64} (r0 : h 0 = (oB 3 [.ref 1, .ref 10, .ref 19, .ref 24, .int (nI mc), .int tch, .int frs])) (f0 : h 1 = (oB 2 [.ref (1 + 1), .ref (1 + 2), .ref (1 + 3), .ref (1 + 4), .ref (1 + 5), .ref (1 + 6), .ref (1 + 7), .ref (1 + 8), .int (nI rc), .int dy])) (fwd : h (1 + 1) = (aI 20 wd)) (fsk : h (1 + 2) = (aI 20 sk)) (fvt : h (1 + 3) = (aI 20 vt)) (fti : h (1 + 4) = (aI 20 ti)) (ffa : h (1 + 5) = (aI 20 fa)) (fst : h (1 + 7) = (aI 20 st)) (hrc : rc ≤ 20) : Ctr l K mX3_digestRingers [.ref 0, .long d0] h n 0 0 (PQ (some (.long (digR wd sk vt ti fa st rc d0))) h n) (PX0) := by
  refine Ctr.of hst pn_X3_digestRingers (Nat.le_of_ble_eq_true rfl) (fun X hX hr hE => ?_)
  have hX : FX l K X cX3_digestRingers RX3 8 133 0 0 := hX
  show GW X 0 [some (.ref 0), some (.long d0), none, none, none, none, none] [] h n 0 0
  refine g_lload_n hX dX3_digestRingers_0 rfl rfl ?_
  refine g_lstore_n (i := 3) hX dX3_digestRingers_1 rfl (Nat.le_of_ble_eq_true rfl) rfl ?_
  refine g_iconst (v := (nI 0)) hX dX3_digestRingers_2 (by decide) ?_
  refine g_istore hX dX3_digestRingers_3 (Nat.le_of_ble_eq_true rfl) rfl ?_
  refine g_for (P := fun (i : Nat) (s : Int64) => GW X 5 [some (.ref 0), some (.long d0), none, some (.long s), none, some (.int (nI i)), none] [] h n 0 0) (step := fun i s => itr (fun q d => d * 31 + (tellI wd sk vt ti fa st rc i q).toInt64) 8 s) rc d0 ?_ ?_
  · intro i1 s2 hi1 es2 ihi1
    have ihi1 : GW X 5 [some (.ref 0), some (.long d0), none, some (.long (itr (fun q d => d * 31 + (tellI wd sk vt ti fa st rc i1 q).toInt64) 8 s2)), none, some (.int (nI (i1 + 1))), none] [] h n 0 0 := ihi1
    refine g_iload hX dX3_digestRingers_5 rfl ?_
    refine g_aload_n hX dX3_digestRingers_7 rfl rfl ?_
    refine g_getf hX dX3_digestRingers_8 fl_X3_12 (r0) rfl ?_
    refine g_getf hX dX3_digestRingers_11 fl_X3_41 (f0) rfl ?_
    refine g_icmp_geN (tgt := 55) hX dX3_digestRingers_14 (by decide) (by omega) (fun c3 => absurd c3 (by omega)) (fun c3 => ?_)
    refine g_iconst (v := (nI 0)) hX dX3_digestRingers_17 (by decide) ?_
    refine g_istore hX dX3_digestRingers_18 (Nat.le_of_ble_eq_true rfl) rfl ?_
    refine g_for (P := fun (i : Nat) (s : Int64) => GW X 20 [some (.ref 0), some (.long d0), none, some (.long s), none, some (.int (nI i1)), some (.int (nI i))] [] h n 0 0) (step := fun i s => s * 31 + (tellI wd sk vt ti fa st rc i1 i).toInt64) 8 s2 ?_ ?_
    · intro i4 s5 hi4 es5 ihi4
      have ihi4 : GW X 20 [some (.ref 0), some (.long d0), none, some (.long (s5 * 31 + (tellI wd sk vt ti fa st rc i1 i4).toInt64)), none, some (.int (nI i1)), some (.int (nI (i4 + 1)))] [] h n 0 0 := ihi4
      refine g_iload hX dX3_digestRingers_20 rfl ?_
      refine g_bipush (v := (nI 8)) hX dX3_digestRingers_22 (by decide) ?_
      refine g_icmp_geN (tgt := 49) hX dX3_digestRingers_24 (by decide) (by omega) (fun c6 => absurd c6 (by omega)) (fun c6 => ?_)
      refine g_lload_n hX dX3_digestRingers_27 rfl rfl ?_
      refine g_ldc2 hX dX3_digestRingers_28 cl_X3_207 ?_
      refine g_lmul hX dX3_digestRingers_31 ?_
      refine g_aload_n hX dX3_digestRingers_32 rfl rfl ?_
      refine g_iload hX dX3_digestRingers_33 rfl ?_
      refine g_iload hX dX3_digestRingers_35 rfl ?_
      refine g_callV (As := [.int (nI i1), .int (nI i4)]) hX dX3_digestRingers_37 cb_X3_told ml_X3_222 im_X3_told se_X3_told rfl rfl (r0) ⟨_, rfl, rfl⟩ (kX3_told0 hst (r0) (f0) (fwd) (fsk) (fvt) (fti) (ffa) (fst) (by omega) (by omega) (by omega)) (Nat.le_of_ble_eq_true rfl) (Nat.le_of_ble_eq_true rfl) (by omega) (by omega) (Nat.le_of_ble_eq_true rfl) GX.no (pq ?_)
      show GW X 40 [some (.ref 0), some (.long d0), none, some (.long s5), none, some (.int (nI i1)), some (.int (nI i4))] [.int (tellI wd sk vt ti fa st rc i1 i4), .long (s5 * 31)] h n 0 0
      refine g_i2l hX dX3_digestRingers_40 ?_
      refine g_ladd hX dX3_digestRingers_41 ?_
      refine g_lstore_n (i := 3) hX dX3_digestRingers_42 rfl (Nat.le_of_ble_eq_true rfl) rfl ?_
      refine g_iinc (v := (nI (i4 + 1))) hX dX3_digestRingers_43 rfl rfl (gn_inc _ _) ?_
      refine g_goto (tgt := 20) hX dX3_digestRingers_46 (by decide) ?_
      refine g_cv ihi4 rfl rfl
    · refine g_iload hX dX3_digestRingers_20 rfl ?_
      refine g_bipush (v := (nI 8)) hX dX3_digestRingers_22 (by decide) ?_
      refine g_icmp_ge (tgt := 49) hX dX3_digestRingers_24 (by decide) (fun _ => ?_) (fun c => absurd (by decide) c)
      refine g_iinc (v := (nI (i1 + 1))) hX dX3_digestRingers_49 rfl rfl (gn_inc _ _) ?_
      refine g_goto (tgt := 5) hX dX3_digestRingers_52 (by decide) ?_
      refine g_kill 6 ?_
      refine g_cv ihi1 rfl rfl
  · refine g_iload hX dX3_digestRingers_5 rfl ?_
    refine g_aload_n hX dX3_digestRingers_7 rfl rfl ?_
    refine g_getf hX dX3_digestRingers_8 fl_X3_12 (r0) rfl ?_
    refine g_getf hX dX3_digestRingers_11 fl_X3_41 (f0) rfl ?_
    refine g_icmp_geN (tgt := 55) hX dX3_digestRingers_14 (by decide) (by omega) (fun c7 => ?_) (fun c7 => absurd c7 (by omega))
    refine g_lload_n hX dX3_digestRingers_55 rfl rfl ?_
    refine g_lreturn hX hr dX3_digestRingers_56 (Nat.le_refl _) (Nat.le_refl _)  ?_
    exact ⟨rfl, rfl, rfl⟩
set_option maxRecDepth 20000 in
theorem kX3_digestBands {l : Launch} {K : gw_K} (hst : l.stackTraces = false) {rc mc n : Nat} {dy tch frs : Int32} {h : gw_H} {wd sk vt ti fa st ws : Nat → Int32} {orc : Nat} {ody : Int32} {owd osk ovt oti ofa otf ost ows : Nat → Int32} {pl mv ma : Nat → Int32} {sn : Nat → Int64} {cm rr : Int32} {d0 : Int64} (r0 : h 0 = (oB 3 [.ref 1, .ref 10, .ref 19, .ref 24, .int (nI mc), .int tch, .int frs])) (f0 : h 1 = (oB 2 [.ref (1 + 1), .ref (1 + 2), .ref (1 + 3), .ref (1 + 4), .ref (1 + 5), .ref (1 + 6), .ref (1 + 7), .ref (1 + 8), .int (nI rc), .int dy])) (fwd : h (1 + 1) = (aI 20 wd)) (fsk : h (1 + 2) = (aI 20 sk)) (fvt : h (1 + 3) = (aI 20 vt)) (fti : h (1 + 4) = (aI 20 ti)) (ffa : h (1 + 5) = (aI 20 fa)) (fst : h (1 + 7) = (aI 20 st)) (fws : h (1 + 8) = (aI 18 ws)) (o0 : h 10 = (oB 2 [.ref (10 + 1), .ref (10 + 2), .ref (10 + 3), .ref (10 + 4), .ref (10 + 5), .ref (10 + 6), .ref (10 + 7), .ref (10 + 8), .int (nI orc), .int ody])) (owd : h (10 + 1) = (aI 20 owd)) (osk : h (10 + 2) = (aI 20 osk)) (ovt : h (10 + 3) = (aI 20 ovt)) (oti : h (10 + 4) = (aI 20 oti)) (ofa : h (10 + 5) = (aI 20 ofa)) (otf : h (10 + 6) = (aI 20 otf)) (ost : h (10 + 7) = (aI 20 ost)) (ows : h (10 + 8) = (aI 18 ows)) (g0 : h 19 = (oB 1 [.ref (19 + 1), .ref (19 + 2), .ref (19 + 3), .ref (19 + 4), .int cm, .int rr])) (g1 : h (19 + 1) = (aI 6 pl)) (g2 : h (19 + 2) = (aI 6 mv)) (g3 : h (19 + 3) = (aI 6 ma)) (g4 : h (19 + 4) = (aJ 122 sn)) (hrc : rc ≤ 20) : Ctr l K mX3_digestBands [.ref 0, .long d0] h n 0 0 (PS (some (.long (digB wd vt ws st rc d0))) h n) (PX0) := by
  refine Ctr.of hst pn_X3_digestBands (Nat.le_of_ble_eq_true rfl) (fun X hX hr hE => ?_)
  have hX : FX l K X cX3_digestBands RX3 9 156 0 0 := hX
  show GW X 0 [some (.ref 0), some (.long d0), none, none, none, none, none, none] [] h n 0 0
  refine g_lload_n hX dX3_digestBands_0 rfl rfl ?_
  refine g_lstore_n (i := 3) hX dX3_digestBands_1 rfl (Nat.le_of_ble_eq_true rfl) rfl ?_
  refine g_iconst (v := (nI 0)) hX dX3_digestBands_2 (by decide) ?_
  refine g_istore hX dX3_digestBands_3 (Nat.le_of_ble_eq_true rfl) rfl ?_
  refine (show ∀ h2, SCR h h2 → GW X 5 [some (.ref 0), some (.long d0), none, some (.long d0), none, some (.int (nI 0)), none, none] [] h2 n 0 0 from g_for (P := fun (i : Nat) (s : Int64) => ∀ h2, SCR h h2 → GW X 5 [some (.ref 0), some (.long d0), none, some (.long s), none, some (.int (nI i)), none, none] [] h2 n 0 0) (step := fun i s => itr (fun k d => itr (fun q d => d * 31 + (bellT wd vt ws st rc i k q).toInt64) 3 d) 6 s) 3 d0 ?_ ?_) h ⟨fun j hj => rfl, ⟨_, _, _, _, _, _, _, _, _, _, o0, owd, osk, ovt, oti, ofa, otf, ost, ows⟩, ⟨_, _, _, _, _, _, g0, g1, g2, g3, g4⟩⟩
  · intro i1 s2 hi1 es2 ihi1 h3 hk4
    obtain ⟨hk4K, ⟨owd3, osk3, ovt3, oti3, ofa3, otf3, ost3, ows3, orc3, ody3, o0_3, o1_3, o2_3, o3_3, o4_3, o5_3, o6_3, o7_3, o8_3⟩, ⟨pl3, mv3, ma3, sn3, cm3, rr3, g0_3, g1_3, g2_3, g3_3, g4_3⟩⟩ := hk4
    show GW X 5 [some (.ref 0), some (.long d0), none, some (.long s2), none, some (.int (nI i1)), none, none] [] h3 n 0 0
    have ihi1 : ∀ h9, SCR h h9 → GW X 5 [some (.ref 0), some (.long d0), none, some (.long (itr (fun k d => itr (fun q d => d * 31 + (bellT wd vt ws st rc i1 k q).toInt64) 3 d) 6 s2)), none, some (.int (nI (i1 + 1))), none, none] [] h9 n 0 0 := ihi1
    refine g_iload hX dX3_digestBands_5 rfl ?_
    refine g_iconst (v := (nI 3)) hX dX3_digestBands_7 (by decide) ?_
    refine g_icmp_geN (tgt := 66) hX dX3_digestBands_8 (by decide) (by omega) (fun c5 => absurd c5 (by omega)) (fun c5 => ?_)
    refine g_iconst (v := (nI 0)) hX dX3_digestBands_11 (by decide) ?_
    refine g_istore hX dX3_digestBands_12 (Nat.le_of_ble_eq_true rfl) rfl ?_
    refine (show ∀ h2, SCR h h2 → GW X 14 [some (.ref 0), some (.long d0), none, some (.long s2), none, some (.int (nI i1)), some (.int (nI 0)), none] [] h2 n 0 0 from g_for (P := fun (i : Nat) (s : Int64) => ∀ h2, SCR h h2 → GW X 14 [some (.ref 0), some (.long d0), none, some (.long s), none, some (.int (nI i1)), some (.int (nI i)), none] [] h2 n 0 0) (step := fun i s => itr (fun q d => d * 31 + (bellT wd vt ws st rc i1 i q).toInt64) 3 s) 6 s2 ?_ ?_) h3 ⟨fun j hj => (hk4K j hj).trans (rfl), ⟨_, _, _, _, _, _, _, _, _, _, o0_3, o1_3, o2_3, o3_3, o4_3, o5_3, o6_3, o7_3, o8_3⟩, ⟨_, _, _, _, _, _, g0_3, g1_3, g2_3, g3_3, g4_3⟩⟩
    · intro i6 s7 hi6 es7 ihi6 h8 hk9
      obtain ⟨hk9K, ⟨owd8, osk8, ovt8, oti8, ofa8, otf8, ost8, ows8, orc8, ody8, o0_8, o1_8, o2_8, o3_8, o4_8, o5_8, o6_8, o7_8, o8_8⟩, ⟨pl8, mv8, ma8, sn8, cm8, rr8, g0_8, g1_8, g2_8, g3_8, g4_8⟩⟩ := hk9
      show GW X 14 [some (.ref 0), some (.long d0), none, some (.long s7), none, some (.int (nI i1)), some (.int (nI i6)), none] [] h8 n 0 0
      have ihi6 : ∀ h9, SCR h h9 → GW X 14 [some (.ref 0), some (.long d0), none, some (.long (itr (fun q d => d * 31 + (bellT wd vt ws st rc i1 i6 q).toInt64) 3 s7)), none, some (.int (nI i1)), some (.int (nI (i6 + 1))), none] [] h9 n 0 0 := ihi6
      refine g_iload hX dX3_digestBands_14 rfl ?_
      refine g_bipush (v := (nI 6)) hX dX3_digestBands_16 (by decide) ?_
      refine g_icmp_geN (tgt := 60) hX dX3_digestBands_18 (by decide) (by omega) (fun c10 => absurd c10 (by omega)) (fun c10 => ?_)
      refine g_iconst (v := (nI 0)) hX dX3_digestBands_21 (by decide) ?_
      refine g_istore hX dX3_digestBands_22 (Nat.le_of_ble_eq_true rfl) rfl ?_
      refine (show ∀ h2, SCR h h2 → GW X 24 [some (.ref 0), some (.long d0), none, some (.long s7), none, some (.int (nI i1)), some (.int (nI i6)), some (.int (nI 0))] [] h2 n 0 0 from g_for (P := fun (i : Nat) (s : Int64) => ∀ h2, SCR h h2 → GW X 24 [some (.ref 0), some (.long d0), none, some (.long s), none, some (.int (nI i1)), some (.int (nI i6)), some (.int (nI i))] [] h2 n 0 0) (step := fun i s => s * 31 + (bellT wd vt ws st rc i1 i6 i).toInt64) 3 s7 ?_ ?_) h8 ⟨fun j hj => (hk9K j hj).trans (rfl), ⟨_, _, _, _, _, _, _, _, _, _, o0_8, o1_8, o2_8, o3_8, o4_8, o5_8, o6_8, o7_8, o8_8⟩, ⟨_, _, _, _, _, _, g0_8, g1_8, g2_8, g3_8, g4_8⟩⟩
      · intro i11 s12 hi11 es12 ihi11 h13 hk14
        obtain ⟨hk14K, ⟨owd13, osk13, ovt13, oti13, ofa13, otf13, ost13, ows13, orc13, ody13, o0_13, o1_13, o2_13, o3_13, o4_13, o5_13, o6_13, o7_13, o8_13⟩, ⟨pl13, mv13, ma13, sn13, cm13, rr13, g0_13, g1_13, g2_13, g3_13, g4_13⟩⟩ := hk14
        show GW X 24 [some (.ref 0), some (.long d0), none, some (.long s12), none, some (.int (nI i1)), some (.int (nI i6)), some (.int (nI i11))] [] h13 n 0 0
        have ihi11 : ∀ h9, SCR h h9 → GW X 24 [some (.ref 0), some (.long d0), none, some (.long (s12 * 31 + (bellT wd vt ws st rc i1 i6 i11).toInt64)), none, some (.int (nI i1)), some (.int (nI i6)), some (.int (nI (i11 + 1)))] [] h9 n 0 0 := ihi11
        refine g_iload hX dX3_digestBands_24 rfl ?_
        refine g_iconst (v := (nI 3)) hX dX3_digestBands_26 (by decide) ?_
        refine g_icmp_geN (tgt := 54) hX dX3_digestBands_27 (by decide) (by omega) (fun c15 => absurd c15 (by omega)) (fun c15 => ?_)
        refine g_lload_n hX dX3_digestBands_30 rfl rfl ?_
        refine g_ldc2 hX dX3_digestBands_31 cl_X3_207 ?_
        refine g_lmul hX dX3_digestBands_34 ?_
        refine g_aload_n hX dX3_digestBands_35 rfl rfl ?_
        refine g_iload hX dX3_digestBands_36 rfl ?_
        refine g_iload hX dX3_digestBands_38 rfl ?_
        refine g_iload hX dX3_digestBands_40 rfl ?_
        refine g_callV (As := [.int (nI i1), .int (nI i6), .int (nI i11)]) hX dX3_digestBands_42 cb_X3_bell ml_X3_225 im_X3_bell se_X3_bell rfl rfl ((hk14K _ (by omega)).trans (r0)) ⟨_, rfl, rfl⟩ (kX3_bell0 hst ((hk14K _ (by omega)).trans (r0)) ((hk14K _ (by omega)).trans (f0)) ((hk14K _ (by omega)).trans (fwd)) ((hk14K _ (by omega)).trans (fsk)) ((hk14K _ (by omega)).trans (fvt)) ((hk14K _ (by omega)).trans (fti)) ((hk14K _ (by omega)).trans (ffa)) ((hk14K _ (by omega)).trans (fst)) ((hk14K _ (by omega)).trans (fws)) (o0_13) (o1_13) (o2_13) (o3_13) (o4_13) (o5_13) (o6_13) (o7_13) (o8_13) (g0_13) (g1_13) (g2_13) (g3_13) (g4_13) (by omega) (by omega) (by omega) (by omega)) (Nat.le_of_ble_eq_true rfl) (Nat.le_of_ble_eq_true rfl) (by omega) (by omega) (Nat.le_of_ble_eq_true rfl) GX.no ?_
        rintro _ h16 _ - ⟨rfl, rfl, hk17⟩
        show GW X 45 [some (.ref 0), some (.long d0), none, some (.long s12), none, some (.int (nI i1)), some (.int (nI i6)), some (.int (nI i11))] [.int (bellT wd vt ws st rc i1 i6 i11), .long (s12 * 31)] h16 n 0 0
        obtain ⟨hk17K, ⟨owd16, osk16, ovt16, oti16, ofa16, otf16, ost16, ows16, orc16, ody16, o0_16, o1_16, o2_16, o3_16, o4_16, o5_16, o6_16, o7_16, o8_16⟩, ⟨pl16, mv16, ma16, sn16, cm16, rr16, g0_16, g1_16, g2_16, g3_16, g4_16⟩⟩ := hk17
        refine g_i2l hX dX3_digestBands_45 ?_
        refine g_ladd hX dX3_digestBands_46 ?_
        refine g_lstore_n (i := 3) hX dX3_digestBands_47 rfl (Nat.le_of_ble_eq_true rfl) rfl ?_
        refine g_iinc (v := (nI (i11 + 1))) hX dX3_digestBands_48 rfl rfl (gn_inc _ _) ?_
        refine g_goto (tgt := 24) hX dX3_digestBands_51 (by decide) ?_
        exact g_cv (ihi11 _ ⟨fun j hj => (hk17K j hj).trans ((hk14K j hj).trans (rfl)), ⟨_, _, _, _, _, _, _, _, _, _, o0_16, o1_16, o2_16, o3_16, o4_16, o5_16, o6_16, o7_16, o8_16⟩, ⟨_, _, _, _, _, _, g0_16, g1_16, g2_16, g3_16, g4_16⟩⟩) rfl rfl
      · intro h18 hk19
        obtain ⟨hk19K, ⟨owd18, osk18, ovt18, oti18, ofa18, otf18, ost18, ows18, orc18, ody18, o0_18, o1_18, o2_18, o3_18, o4_18, o5_18, o6_18, o7_18, o8_18⟩, ⟨pl18, mv18, ma18, sn18, cm18, rr18, g0_18, g1_18, g2_18, g3_18, g4_18⟩⟩ := hk19
        show GW X 24 [some (.ref 0), some (.long d0), none, some (.long (itr (fun i s => s * 31 + (bellT wd vt ws st rc i1 i6 i).toInt64) 3 s7)), none, some (.int (nI i1)), some (.int (nI i6)), some (.int (nI 3))] [] h18 n 0 0
        refine g_iload hX dX3_digestBands_24 rfl ?_
        refine g_iconst (v := (nI 3)) hX dX3_digestBands_26 (by decide) ?_
        refine g_icmp_ge (tgt := 54) hX dX3_digestBands_27 (by decide) (fun _ => ?_) (fun c => absurd (by decide) c)
        refine g_iinc (v := (nI (i6 + 1))) hX dX3_digestBands_54 rfl rfl (gn_inc _ _) ?_
        refine g_goto (tgt := 14) hX dX3_digestBands_57 (by decide) ?_
        refine g_kill 7 ?_
        exact g_cv (ihi6 _ ⟨fun j hj => (hk19K j hj).trans (rfl), ⟨_, _, _, _, _, _, _, _, _, _, o0_18, o1_18, o2_18, o3_18, o4_18, o5_18, o6_18, o7_18, o8_18⟩, ⟨_, _, _, _, _, _, g0_18, g1_18, g2_18, g3_18, g4_18⟩⟩) rfl rfl
    · intro h20 hk21
      obtain ⟨hk21K, ⟨owd20, osk20, ovt20, oti20, ofa20, otf20, ost20, ows20, orc20, ody20, o0_20, o1_20, o2_20, o3_20, o4_20, o5_20, o6_20, o7_20, o8_20⟩, ⟨pl20, mv20, ma20, sn20, cm20, rr20, g0_20, g1_20, g2_20, g3_20, g4_20⟩⟩ := hk21
      show GW X 14 [some (.ref 0), some (.long d0), none, some (.long (itr (fun i s => itr (fun q d => d * 31 + (bellT wd vt ws st rc i1 i q).toInt64) 3 s) 6 s2)), none, some (.int (nI i1)), some (.int (nI 6)), none] [] h20 n 0 0
      refine g_iload hX dX3_digestBands_14 rfl ?_
      refine g_bipush (v := (nI 6)) hX dX3_digestBands_16 (by decide) ?_
      refine g_icmp_ge (tgt := 60) hX dX3_digestBands_18 (by decide) (fun _ => ?_) (fun c => absurd (by decide) c)
      refine g_iinc (v := (nI (i1 + 1))) hX dX3_digestBands_60 rfl rfl (gn_inc _ _) ?_
      refine g_goto (tgt := 5) hX dX3_digestBands_63 (by decide) ?_
      refine g_kill 6 ?_
      exact g_cv (ihi1 _ ⟨fun j hj => (hk21K j hj).trans (rfl), ⟨_, _, _, _, _, _, _, _, _, _, o0_20, o1_20, o2_20, o3_20, o4_20, o5_20, o6_20, o7_20, o8_20⟩, ⟨_, _, _, _, _, _, g0_20, g1_20, g2_20, g3_20, g4_20⟩⟩) rfl rfl
  · intro h22 hk23
    obtain ⟨hk23K, ⟨owd22, osk22, ovt22, oti22, ofa22, otf22, ost22, ows22, orc22, ody22, o0_22, o1_22, o2_22, o3_22, o4_22, o5_22, o6_22, o7_22, o8_22⟩, ⟨pl22, mv22, ma22, sn22, cm22, rr22, g0_22, g1_22, g2_22, g3_22, g4_22⟩⟩ := hk23
    show GW X 5 [some (.ref 0), some (.long d0), none, some (.long (itr (fun i s => itr (fun k d => itr (fun q d => d * 31 + (bellT wd vt ws st rc i k q).toInt64) 3 d) 6 s) 3 d0)), none, some (.int (nI 3)), none, none] [] h22 n 0 0
    refine g_iload hX dX3_digestBands_5 rfl ?_
    refine g_iconst (v := (nI 3)) hX dX3_digestBands_7 (by decide) ?_
    refine g_icmp_ge (tgt := 66) hX dX3_digestBands_8 (by decide) (fun _ => ?_) (fun c => absurd (by decide) c)
    refine g_lload_n hX dX3_digestBands_66 rfl rfl ?_
    refine g_lreturn hX hr dX3_digestBands_67 (Nat.le_refl _) (Nat.le_refl _)  ?_
    exact ⟨rfl, rfl, fun j hj => (hk23K j hj).trans (rfl), ⟨_, _, _, _, _, _, _, _, _, _, o0_22, o1_22, o2_22, o3_22, o4_22, o5_22, o6_22, o7_22, o8_22⟩, ⟨_, _, _, _, _, _, g0_22, g1_22, g2_22, g3_22, g4_22⟩⟩
set_option maxRecDepth 20000 in
theorem kX3_digestMethods {l : Launch} {K : gw_K} (hst : l.stackTraces = false) {rc mc n : Nat} {dy tch frs : Int32} {h : gw_H} {d0 : Int64} {ln lds : Nat → Nat} {rws frx hos : Nat → Int32} {chs dgs : Nat → Nat → Int32} (r0 : h 0 = (oB 3 [.ref 1, .ref 10, .ref 19, .ref 24, .int (nI mc), .int tch, .int frs])) (f0 : h 1 = (oB 2 [.ref (1 + 1), .ref (1 + 2), .ref (1 + 3), .ref (1 + 4), .ref (1 + 5), .ref (1 + 6), .ref (1 + 7), .ref (1 + 8), .int (nI rc), .int dy])) (la : h 24 = (aQ 5 lsF)) (hl : ∀ k c, k < mc → c = 25 + 3 * k → h c = (oB 0 [.ref (c + 1), .ref (c + 2), .int (nI (ln k)), .int (nI (lds k)), .int (rws k), .int (frx k), .int (hos k)]) ∧ h (c + 1) = aI 12 (chs k) ∧ h (c + 2) = aI 6 (dgs k)) (hm5 : mc ≤ 5) (hln : ∀ k, k < mc → ln k ≤ 12) : Ctr l K mX3_digestMethods [.ref 0, .long d0] h n 0 0 (PQ (some (.long (digM ln lds rws frx hos chs dgs mc d0))) h n) (PX0) := by
  refine Ctr.of hst pn_X3_digestMethods (Nat.le_of_ble_eq_true rfl) (fun X hX hr hE => ?_)
  have hX : FX l K X cX3_digestMethods RX3 9 155 0 0 := hX
  show GW X 0 [some (.ref 0), some (.long d0), none, none, none, none, none, none] [] h n 0 0
  refine g_lload_n hX dX3_digestMethods_0 rfl rfl ?_
  refine g_lstore_n (i := 3) hX dX3_digestMethods_1 rfl (Nat.le_of_ble_eq_true rfl) rfl ?_
  refine g_iconst (v := (nI 0)) hX dX3_digestMethods_2 (by decide) ?_
  refine g_istore hX dX3_digestMethods_3 (Nat.le_of_ble_eq_true rfl) rfl ?_
  refine g_for (P := fun (i : Nat) (s : Int64) => GW X 5 [some (.ref 0), some (.long d0), none, some (.long s), none, some (.int (nI i)), none, none] [] h n 0 0) (step := fun i s => itr (fun b d => d * 31 + (dgs i b).toInt64) 6 (itr (fun j d => d * 31 + (chs i j).toInt64) (ln i) (itr (fun q d => d * 31 + (aboutI (ln i) (nI (lds i)) (rws i) (frx i) (dgs i) (hos i) q).toInt64) 6 s))) mc d0 ?_ ?_
  · intro i1 s2 hi1 es2 ihi1
    have ihi1 : GW X 5 [some (.ref 0), some (.long d0), none, some (.long (itr (fun b d => d * 31 + (dgs i1 b).toInt64) 6 (itr (fun j d => d * 31 + (chs i1 j).toInt64) (ln i1) (itr (fun q d => d * 31 + (aboutI (ln i1) (nI (lds i1)) (rws i1) (frx i1) (dgs i1) (hos i1) q).toInt64) 6 s2)))), none, some (.int (nI (i1 + 1))), none, none] [] h n 0 0 := ihi1
    skip
    refine g_iload hX dX3_digestMethods_5 rfl ?_
    refine g_aload_n hX dX3_digestMethods_7 rfl rfl ?_
    refine g_getf hX dX3_digestMethods_8 fl_X3_110 (r0) rfl ?_
    refine g_icmp_geN (tgt := 126) hX dX3_digestMethods_11 (by decide) (by omega) (fun c3 => absurd c3 (by omega)) (fun c3 => ?_)
    obtain ⟨c_i1, hc_c_i1⟩ : ∃ c, c = 25 + 3 * i1 := ⟨_, rfl⟩
    obtain ⟨l0_i1, l1_i1, l2_i1⟩ := hl i1 c_i1 hi1 hc_c_i1
    have hln_i1 := hln i1 hi1
    refine g_iconst (v := (nI 0)) hX dX3_digestMethods_14 (by decide) ?_
    refine g_istore hX dX3_digestMethods_15 (Nat.le_of_ble_eq_true rfl) rfl ?_
    refine g_for (P := fun (i : Nat) (s : Int64) => GW X 17 [some (.ref 0), some (.long d0), none, some (.long s), none, some (.int (nI i1)), some (.int (nI i)), none] [] h n 0 0) (step := fun i s => s * 31 + (aboutI (ln i1) (nI (lds i1)) (rws i1) (frx i1) (dgs i1) (hos i1) i).toInt64) 6 s2 ?_ ?_
    · intro i4 s5 hi4 es5 ihi4
      have ihi4 : GW X 17 [some (.ref 0), some (.long d0), none, some (.long (s5 * 31 + (aboutI (ln i1) (nI (lds i1)) (rws i1) (frx i1) (dgs i1) (hos i1) i4).toInt64)), none, some (.int (nI i1)), some (.int (nI (i4 + 1))), none] [] h n 0 0 := ihi4
      refine g_iload hX dX3_digestMethods_17 rfl ?_
      refine g_bipush (v := (nI 6)) hX dX3_digestMethods_19 (by decide) ?_
      refine g_icmp_geN (tgt := 46) hX dX3_digestMethods_21 (by decide) (by omega) (fun c6 => absurd c6 (by omega)) (fun c6 => ?_)
      refine g_lload_n hX dX3_digestMethods_24 rfl rfl ?_
      refine g_ldc2 hX dX3_digestMethods_25 cl_X3_207 ?_
      refine g_lmul hX dX3_digestMethods_28 ?_
      refine g_aload_n hX dX3_digestMethods_29 rfl rfl ?_
      refine g_iload hX dX3_digestMethods_30 rfl ?_
      refine g_iload hX dX3_digestMethods_32 rfl ?_
      refine g_callV (As := [.int (nI i1), .int (nI i4)]) hX dX3_digestMethods_34 cb_X3_about ml_X3_228 im_X3_about se_X3_about rfl rfl (r0) ⟨_, rfl, rfl⟩ (kX3_about0 hst (r0) (f0) (l0_i1) (l1_i1) (l2_i1) (la) (by omega) (by omega) hc_c_i1 (by omega) (by omega)) (Nat.le_of_ble_eq_true rfl) (Nat.le_of_ble_eq_true rfl) (by omega) (by omega) (Nat.le_of_ble_eq_true rfl) GX.no (pq ?_)
      show GW X 37 [some (.ref 0), some (.long d0), none, some (.long s5), none, some (.int (nI i1)), some (.int (nI i4)), none] [.int (aboutI (ln i1) (nI (lds i1)) (rws i1) (frx i1) (dgs i1) (hos i1) i4), .long (s5 * 31)] h n 0 0
      refine g_i2l hX dX3_digestMethods_37 ?_
      refine g_ladd hX dX3_digestMethods_38 ?_
      refine g_lstore_n (i := 3) hX dX3_digestMethods_39 rfl (Nat.le_of_ble_eq_true rfl) rfl ?_
      refine g_iinc (v := (nI (i4 + 1))) hX dX3_digestMethods_40 rfl rfl (gn_inc _ _) ?_
      refine g_goto (tgt := 17) hX dX3_digestMethods_43 (by decide) ?_
      refine g_cv ihi4 rfl rfl
    · refine g_iload hX dX3_digestMethods_17 rfl ?_
      refine g_bipush (v := (nI 6)) hX dX3_digestMethods_19 (by decide) ?_
      refine g_icmp_ge (tgt := 46) hX dX3_digestMethods_21 (by decide) (fun _ => ?_) (fun c => absurd (by decide) c)
      refine g_aload_n hX dX3_digestMethods_46 rfl rfl ?_
      refine g_iload hX dX3_digestMethods_47 rfl ?_
      refine g_callV (As := [.int (nI i1)]) hX dX3_digestMethods_49 cb_X3_listNumbered ml_X3_115 im_X3_listNumbered se_X3_listNumbered rfl rfl (r0) ⟨_, rfl, rfl⟩ (kX3_listNumbered hst (r0) (la) (by omega) (by omega) (hc_c_i1)) (Nat.le_of_ble_eq_true rfl) (Nat.le_of_ble_eq_true rfl) (by omega) (by omega) (Nat.le_of_ble_eq_true rfl) GX.no (pq ?_)
      show GW X 52 [some (.ref 0), some (.long d0), none, some (.long (itr (fun i s => s * 31 + (aboutI (ln i1) (nI (lds i1)) (rws i1) (frx i1) (dgs i1) (hos i1) i).toInt64) 6 s2)), none, some (.int (nI i1)), some (.int (nI 6)), none] [.ref c_i1] h n 0 0
      refine g_astore hX dX3_digestMethods_52 (Nat.le_of_ble_eq_true rfl) rfl ?_
      refine g_iconst (v := (nI 0)) hX dX3_digestMethods_54 (by decide) ?_
      refine g_istore hX dX3_digestMethods_55 (Nat.le_of_ble_eq_true rfl) rfl ?_
      refine g_for (P := fun (i : Nat) (s : Int64) => GW X 57 [some (.ref 0), some (.long d0), none, some (.long s), none, some (.int (nI i1)), some (.ref c_i1), some (.int (nI i))] [] h n 0 0) (step := fun i s => s * 31 + (chs i1 i).toInt64) (ln i1) (itr (fun i s => s * 31 + (aboutI (ln i1) (nI (lds i1)) (rws i1) (frx i1) (dgs i1) (hos i1) i).toInt64) 6 s2) ?_ ?_
      · intro i7 s8 hi7 es8 ihi7
        have ihi7 : GW X 57 [some (.ref 0), some (.long d0), none, some (.long (s8 * 31 + (chs i1 i7).toInt64)), none, some (.int (nI i1)), some (.ref c_i1), some (.int (nI (i7 + 1)))] [] h n 0 0 := ihi7
        refine g_iload hX dX3_digestMethods_57 rfl ?_
        refine g_aload hX dX3_digestMethods_59 rfl ?_
        refine g_getf hX dX3_digestMethods_61 fl_X3_124 (l0_i1) rfl ?_
        refine g_icmp_geN (tgt := 88) hX dX3_digestMethods_64 (by decide) (by omega) (fun c9 => absurd c9 (by omega)) (fun c9 => ?_)
        refine g_lload_n hX dX3_digestMethods_67 rfl rfl ?_
        refine g_ldc2 hX dX3_digestMethods_68 cl_X3_207 ?_
        refine g_lmul hX dX3_digestMethods_71 ?_
        refine g_aload hX dX3_digestMethods_72 rfl ?_
        refine g_iload hX dX3_digestMethods_74 rfl ?_
        refine g_callV (As := [.int (nI i7)]) hX dX3_digestMethods_76 cb_X0_changeAt ml_X3_144 im_X0_changeAt se_X0_changeAt rfl rfl (l0_i1) ⟨_, rfl, rfl⟩ (kX0_changeAt hst (l0_i1) (l1_i1) (by omega) (by omega)) (Nat.le_of_ble_eq_true rfl) (Nat.le_of_ble_eq_true rfl) (by omega) (by omega) (Nat.le_of_ble_eq_true rfl) GX.no (pq ?_)
        show GW X 79 [some (.ref 0), some (.long d0), none, some (.long s8), none, some (.int (nI i1)), some (.ref c_i1), some (.int (nI i7))] [.int ((chs i1) i7), .long (s8 * 31)] h n 0 0
        refine g_i2l hX dX3_digestMethods_79 ?_
        refine g_ladd hX dX3_digestMethods_80 ?_
        refine g_lstore_n (i := 3) hX dX3_digestMethods_81 rfl (Nat.le_of_ble_eq_true rfl) rfl ?_
        refine g_iinc (v := (nI (i7 + 1))) hX dX3_digestMethods_82 rfl rfl (gn_inc _ _) ?_
        refine g_goto (tgt := 57) hX dX3_digestMethods_85 (by decide) ?_
        refine g_cv ihi7 rfl rfl
      · refine g_iload hX dX3_digestMethods_57 rfl ?_
        refine g_aload hX dX3_digestMethods_59 rfl ?_
        refine g_getf hX dX3_digestMethods_61 fl_X3_124 (l0_i1) rfl ?_
        refine g_icmp_geN (tgt := 88) hX dX3_digestMethods_64 (by decide) (by omega) (fun c10 => ?_) (fun c10 => absurd c10 (by omega))
        refine g_iconst (v := (nI 0)) hX dX3_digestMethods_88 (by decide) ?_
        refine g_istore hX dX3_digestMethods_89 (Nat.le_of_ble_eq_true rfl) rfl ?_
        refine g_for (P := fun (i : Nat) (s : Int64) => GW X 91 [some (.ref 0), some (.long d0), none, some (.long s), none, some (.int (nI i1)), some (.ref c_i1), some (.int (nI i))] [] h n 0 0) (step := fun i s => s * 31 + (dgs i1 i).toInt64) 6 (itr (fun i s => s * 31 + (chs i1 i).toInt64) (ln i1) (itr (fun i s => s * 31 + (aboutI (ln i1) (nI (lds i1)) (rws i1) (frx i1) (dgs i1) (hos i1) i).toInt64) 6 s2)) ?_ ?_
        · intro i11 s12 hi11 es12 ihi11
          have ihi11 : GW X 91 [some (.ref 0), some (.long d0), none, some (.long (s12 * 31 + (dgs i1 i11).toInt64)), none, some (.int (nI i1)), some (.ref c_i1), some (.int (nI (i11 + 1)))] [] h n 0 0 := ihi11
          refine g_iload hX dX3_digestMethods_91 rfl ?_
          refine g_bipush (v := (nI 6)) hX dX3_digestMethods_93 (by decide) ?_
          refine g_icmp_geN (tgt := 120) hX dX3_digestMethods_95 (by decide) (by omega) (fun c13 => absurd c13 (by omega)) (fun c13 => ?_)
          refine g_lload_n hX dX3_digestMethods_98 rfl rfl ?_
          refine g_ldc2 hX dX3_digestMethods_99 cl_X3_207 ?_
          refine g_lmul hX dX3_digestMethods_102 ?_
          refine g_aload_n hX dX3_digestMethods_103 rfl rfl ?_
          refine g_iload hX dX3_digestMethods_104 rfl ?_
          refine g_iload hX dX3_digestMethods_106 rfl ?_
          refine g_callV (As := [.int (nI i1), .int (nI i11)]) hX dX3_digestMethods_108 cb_X3_dodges ml_X3_231 im_X3_dodges se_X3_dodges rfl rfl (r0) ⟨_, rfl, rfl⟩ (kX3_dodges0 hst (r0) (f0) (l0_i1) (l1_i1) (l2_i1) (la) (by omega) (by omega) hc_c_i1 (by omega) (by omega)) (Nat.le_of_ble_eq_true rfl) (Nat.le_of_ble_eq_true rfl) (by omega) (by omega) (Nat.le_of_ble_eq_true rfl) GX.no (pq ?_)
          show GW X 111 [some (.ref 0), some (.long d0), none, some (.long s12), none, some (.int (nI i1)), some (.ref c_i1), some (.int (nI i11))] [.int (dgs i1 i11), .long (s12 * 31)] h n 0 0
          refine g_i2l hX dX3_digestMethods_111 ?_
          refine g_ladd hX dX3_digestMethods_112 ?_
          refine g_lstore_n (i := 3) hX dX3_digestMethods_113 rfl (Nat.le_of_ble_eq_true rfl) rfl ?_
          refine g_iinc (v := (nI (i11 + 1))) hX dX3_digestMethods_114 rfl rfl (gn_inc _ _) ?_
          refine g_goto (tgt := 91) hX dX3_digestMethods_117 (by decide) ?_
          refine g_cv ihi11 rfl rfl
        · refine g_iload hX dX3_digestMethods_91 rfl ?_
          refine g_bipush (v := (nI 6)) hX dX3_digestMethods_93 (by decide) ?_
          refine g_icmp_ge (tgt := 120) hX dX3_digestMethods_95 (by decide) (fun _ => ?_) (fun c => absurd (by decide) c)
          refine g_iinc (v := (nI (i1 + 1))) hX dX3_digestMethods_120 rfl rfl (gn_inc _ _) ?_
          refine g_goto (tgt := 5) hX dX3_digestMethods_123 (by decide) ?_
          refine g_kill 6 ?_
          refine g_kill 7 ?_
          refine g_cv ihi1 rfl rfl
  · refine g_iload hX dX3_digestMethods_5 rfl ?_
    refine g_aload_n hX dX3_digestMethods_7 rfl rfl ?_
    refine g_getf hX dX3_digestMethods_8 fl_X3_110 (r0) rfl ?_
    refine g_icmp_geN (tgt := 126) hX dX3_digestMethods_11 (by decide) (by omega) (fun c14 => ?_) (fun c14 => absurd c14 (by omega))
    refine g_lload_n hX dX3_digestMethods_126 rfl rfl ?_
    refine g_lreturn hX hr dX3_digestMethods_127 (Nat.le_refl _) (Nat.le_refl _)  ?_
    exact ⟨rfl, rfl, rfl⟩
set_option maxRecDepth 20000 in
theorem kX3_digest {l : Launch} {K : gw_K} (hst : l.stackTraces = false) {rc mc n : Nat} {dy tch frs : Int32} {h : gw_H} {wd sk vt ti fa st ws : Nat → Int32} {orc : Nat} {ody : Int32} {owd osk ovt oti ofa otf ost ows : Nat → Int32} {pl mv ma : Nat → Int32} {sn : Nat → Int64} {cm rr : Int32} {ln lds : Nat → Nat} {rws frx hos : Nat → Int32} {chs dgs : Nat → Nat → Int32} (r0 : h 0 = (oB 3 [.ref 1, .ref 10, .ref 19, .ref 24, .int (nI mc), .int tch, .int frs])) (f0 : h 1 = (oB 2 [.ref (1 + 1), .ref (1 + 2), .ref (1 + 3), .ref (1 + 4), .ref (1 + 5), .ref (1 + 6), .ref (1 + 7), .ref (1 + 8), .int (nI rc), .int dy])) (fwd : h (1 + 1) = (aI 20 wd)) (fsk : h (1 + 2) = (aI 20 sk)) (fvt : h (1 + 3) = (aI 20 vt)) (fti : h (1 + 4) = (aI 20 ti)) (ffa : h (1 + 5) = (aI 20 fa)) (fst : h (1 + 7) = (aI 20 st)) (fws : h (1 + 8) = (aI 18 ws)) (o0 : h 10 = (oB 2 [.ref (10 + 1), .ref (10 + 2), .ref (10 + 3), .ref (10 + 4), .ref (10 + 5), .ref (10 + 6), .ref (10 + 7), .ref (10 + 8), .int (nI orc), .int ody])) (owd : h (10 + 1) = (aI 20 owd)) (osk : h (10 + 2) = (aI 20 osk)) (ovt : h (10 + 3) = (aI 20 ovt)) (oti : h (10 + 4) = (aI 20 oti)) (ofa : h (10 + 5) = (aI 20 ofa)) (otf : h (10 + 6) = (aI 20 otf)) (ost : h (10 + 7) = (aI 20 ost)) (ows : h (10 + 8) = (aI 18 ows)) (g0 : h 19 = (oB 1 [.ref (19 + 1), .ref (19 + 2), .ref (19 + 3), .ref (19 + 4), .int cm, .int rr])) (g1 : h (19 + 1) = (aI 6 pl)) (g2 : h (19 + 2) = (aI 6 mv)) (g3 : h (19 + 3) = (aI 6 ma)) (g4 : h (19 + 4) = (aJ 122 sn)) (la : h 24 = (aQ 5 lsF)) (hl : ∀ k c, k < mc → c = 25 + 3 * k → h c = (oB 0 [.ref (c + 1), .ref (c + 2), .int (nI (ln k)), .int (nI (lds k)), .int (rws k), .int (frx k), .int (hos k)]) ∧ h (c + 1) = aI 12 (chs k) ∧ h (c + 2) = aI 6 (dgs k)) (hm5 : mc ≤ 5) (hln : ∀ k, k < mc → ln k ≤ 12) (hrc : rc ≤ 20) : Ctr l K mX3_digest [.ref 0] h n 0 0 (PS (some (.long (digM ln lds rws frx hos chs dgs mc (digB wd vt ws st rc (digR wd sk vt ti fa st rc (digC vt fa st rc mc dy tch frs 1237)))))) h n) (PX0) := by
  refine Ctr.of hst pn_X3_digest (Nat.le_of_ble_eq_true rfl) (fun X hX hr hE => ?_)
  have hX : FX l K X cX3_digest RX3 10 183 0 0 := hX
  show GW X 0 [some (.ref 0), none, none, none] [] h n 0 0
  refine g_ldc2 hX dX3_digest_0 cl_X3_205 ?_
  refine g_lstore_n (i := 1) hX dX3_digest_3 rfl (Nat.le_of_ble_eq_true rfl) rfl ?_
  refine g_iconst (v := (nI 0)) hX dX3_digest_4 (by decide) ?_
  refine g_istore_n (i := 3) hX dX3_digest_5 rfl (Nat.le_of_ble_eq_true rfl) rfl ?_
  refine g_for (P := fun (i : Nat) (s : Int64) => GW X 6 [some (.ref 0), some (.long s), none, some (.int (nI i))] [] h n 0 0) (step := fun i s => s * 31 + (countT vt fa st rc mc dy tch frs i).toInt64) 9 1237 ?_ ?_
  · intro i1 s2 hi1 es2 ihi1
    have ihi1 : GW X 6 [some (.ref 0), some (.long (s2 * 31 + (countT vt fa st rc mc dy tch frs i1).toInt64)), none, some (.int (nI (i1 + 1)))] [] h n 0 0 := ihi1
    refine g_iload_n hX dX3_digest_6 rfl rfl ?_
    refine g_bipush (v := (nI 9)) hX dX3_digest_7 (by decide) ?_
    refine g_icmp_geN (tgt := 31) hX dX3_digest_9 (by decide) (by omega) (fun c3 => absurd c3 (by omega)) (fun c3 => ?_)
    refine g_lload_n hX dX3_digest_12 rfl rfl ?_
    refine g_ldc2 hX dX3_digest_13 cl_X3_207 ?_
    refine g_lmul hX dX3_digest_16 ?_
    refine g_aload_n hX dX3_digest_17 rfl rfl ?_
    refine g_iload_n hX dX3_digest_18 rfl rfl ?_
    refine g_callV (As := [.int (nI i1)]) hX dX3_digest_19 cb_X3_count ml_X3_209 im_X3_count se_X3_count rfl rfl (r0) ⟨_, rfl, rfl⟩ (kX3_count0 hst (r0) (f0) (fvt) (ffa) (fst) (by omega) (by omega)) (Nat.le_of_ble_eq_true rfl) (Nat.le_of_ble_eq_true rfl) (by omega) (by omega) (Nat.le_of_ble_eq_true rfl) GX.no (pq ?_)
    show GW X 22 [some (.ref 0), some (.long s2), none, some (.int (nI i1))] [.int (countT vt fa st rc mc dy tch frs i1), .long (s2 * 31)] h n 0 0
    refine g_i2l hX dX3_digest_22 ?_
    refine g_ladd hX dX3_digest_23 ?_
    refine g_lstore_n (i := 1) hX dX3_digest_24 rfl (Nat.le_of_ble_eq_true rfl) rfl ?_
    refine g_iinc (v := (nI (i1 + 1))) hX dX3_digest_25 rfl rfl (gn_inc _ _) ?_
    refine g_goto (tgt := 6) hX dX3_digest_28 (by decide) ?_
    refine g_cv ihi1 rfl rfl
  · show GW X 6 [some (.ref 0), some (.long (digC vt fa st rc mc dy tch frs 1237)), none, some (.int (nI 9))] [] h n 0 0
    refine g_iload_n hX dX3_digest_6 rfl rfl ?_
    refine g_bipush (v := (nI 9)) hX dX3_digest_7 (by decide) ?_
    refine g_icmp_ge (tgt := 31) hX dX3_digest_9 (by decide) (fun _ => ?_) (fun c => absurd (by decide) c)
    refine g_aload_n hX dX3_digest_31 rfl rfl ?_
    refine g_lload_n hX dX3_digest_32 rfl rfl ?_
    refine g_callV (As := [.long (digC vt fa st rc mc dy tch frs 1237)]) hX dX3_digest_33 cb_X3_digestRingers ml_X3_212 im_X3_digestRingers se_X3_digestRingers rfl rfl (r0) ⟨_, rfl, rfl⟩ (kX3_digestRingers hst (r0) (f0) (fwd) (fsk) (fvt) (fti) (ffa) (fst) (by omega)) (Nat.le_of_ble_eq_true rfl) (Nat.le_of_ble_eq_true rfl) (by omega) (by omega) (Nat.le_of_ble_eq_true rfl) GX.no (pq ?_)
    show GW X 36 [some (.ref 0), some (.long (digC vt fa st rc mc dy tch frs 1237)), none, some (.int (nI 9))] [.long (digR wd sk vt ti fa st rc (digC vt fa st rc mc dy tch frs 1237))] h n 0 0
    refine g_lstore_n (i := 1) hX dX3_digest_36 rfl (Nat.le_of_ble_eq_true rfl) rfl ?_
    refine g_aload_n hX dX3_digest_37 rfl rfl ?_
    refine g_lload_n hX dX3_digest_38 rfl rfl ?_
    refine g_callV (As := [.long (digR wd sk vt ti fa st rc (digC vt fa st rc mc dy tch frs 1237))]) hX dX3_digest_39 cb_X3_digestBands ml_X3_216 im_X3_digestBands se_X3_digestBands rfl rfl (r0) ⟨_, rfl, rfl⟩ (kX3_digestBands hst (r0) (f0) (fwd) (fsk) (fvt) (fti) (ffa) (fst) (fws) (o0) (owd) (osk) (ovt) (oti) (ofa) (otf) (ost) (ows) (g0) (g1) (g2) (g3) (g4) (by omega)) (Nat.le_of_ble_eq_true rfl) (Nat.le_of_ble_eq_true rfl) (by omega) (by omega) (Nat.le_of_ble_eq_true rfl) GX.no ?_
    rintro _ h4 _ - ⟨rfl, rfl, hk5⟩
    show GW X 42 [some (.ref 0), some (.long (digR wd sk vt ti fa st rc (digC vt fa st rc mc dy tch frs 1237))), none, some (.int (nI 9))] [.long (digB wd vt ws st rc (digR wd sk vt ti fa st rc (digC vt fa st rc mc dy tch frs 1237)))] h4 n 0 0
    obtain ⟨hk5K, ⟨owd4, osk4, ovt4, oti4, ofa4, otf4, ost4, ows4, orc4, ody4, o0_4, o1_4, o2_4, o3_4, o4_4, o5_4, o6_4, o7_4, o8_4⟩, ⟨pl4, mv4, ma4, sn4, cm4, rr4, g0_4, g1_4, g2_4, g3_4, g4_4⟩⟩ := hk5
    refine g_lstore_n (i := 1) hX dX3_digest_42 rfl (Nat.le_of_ble_eq_true rfl) rfl ?_
    refine g_aload_n hX dX3_digest_43 rfl rfl ?_
    refine g_lload_n hX dX3_digest_44 rfl rfl ?_
    refine g_callV (As := [.long (digB wd vt ws st rc (digR wd sk vt ti fa st rc (digC vt fa st rc mc dy tch frs 1237)))]) hX dX3_digest_45 cb_X3_digestMethods ml_X3_219 im_X3_digestMethods se_X3_digestMethods rfl rfl ((hk5K _ (by omega)).trans (r0)) ⟨_, rfl, rfl⟩ (kX3_digestMethods (h := h4) hst ((hk5K _ (by omega)).trans (r0)) ((hk5K _ (by omega)).trans (f0)) ((hk5K _ (by omega)).trans (la)) (fun k c hk hc => by obtain ⟨a1, a2, a3⟩ := hl k c hk hc; exact ⟨(hk5K _ (by omega)).trans a1, (hk5K _ (by omega)).trans a2, (hk5K _ (by omega)).trans a3⟩) (by omega) hln) (Nat.le_of_ble_eq_true rfl) (Nat.le_of_ble_eq_true rfl) (by omega) (by omega) (Nat.le_of_ble_eq_true rfl) GX.no (pq ?_)
    show GW X 48 [some (.ref 0), some (.long (digB wd vt ws st rc (digR wd sk vt ti fa st rc (digC vt fa st rc mc dy tch frs 1237)))), none, some (.int (nI 9))] [.long (digM ln lds rws frx hos chs dgs mc (digB wd vt ws st rc (digR wd sk vt ti fa st rc (digC vt fa st rc mc dy tch frs 1237))))] h4 n 0 0
    refine g_lreturn hX hr dX3_digest_48 (Nat.le_refl _) (Nat.le_refl _)  ?_
    exact ⟨rfl, rfl, fun j hj => (hk5K j hj).trans (rfl), ⟨_, _, _, _, _, _, _, _, _, _, o0_4, o1_4, o2_4, o3_4, o4_4, o5_4, o6_4, o7_4, o8_4⟩, ⟨_, _, _, _, _, _, g0_4, g1_4, g2_4, g3_4, g4_4⟩⟩
