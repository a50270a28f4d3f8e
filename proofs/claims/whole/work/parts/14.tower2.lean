set_option maxRecDepth 20000 in
theorem kX2_tire {l : Launch} {K : gw_K} (hst : l.stackTraces = false) {t rc n : Nat} {dy : Int32} {h : gw_H} {sk ti fa tf : Nat → Int32} {r : Nat} (f0 : h t = (oB 2 [.ref (t + 1), .ref (t + 2), .ref (t + 3), .ref (t + 4), .ref (t + 5), .ref (t + 6), .ref (t + 7), .ref (t + 8), .int (nI rc), .int dy])) (fsk : h (t + 2) = (aI 20 sk)) (fti : h (t + 4) = (aI 20 ti)) (ffa : h (t + 5) = (aI 20 fa)) (ftf : h (t + 6) = (aI 20 tf)) (hr : r < 20) : Ctr l K mX2_tire [.ref t, .int (nI r)] h n 0 0 (PQ (none) (hs (hs (hs h (t + 4) (aI 20 ((tireS sk r (ti, fa, tf)).1))) (t + 5) (aI 20 ((tireS sk r (ti, fa, tf)).2.1))) (t + 6) (aI 20 ((tireS sk r (ti, fa, tf)).2.2))) n) (PX0) := by
  refine Ctr.of hst pn_X2_tire (Nat.le_of_ble_eq_true rfl) (fun X hX hr hE => ?_)
  have hX : FX l K X cX2_tire RX2 1 21 0 0 := hX
  show GW X 0 [some (.ref t), some (.int (nI r))] [] h n 0 0
  refine g_aload_n hX dX2_tire_0 rfl rfl ?_
  refine g_getf hX dX2_tire_1 fl_X2_21 (f0) rfl ?_
  refine g_iload_n hX dX2_tire_4 rfl rfl ?_
  refine g_bipush (v := (nI 20)) hX dX2_tire_5 (by decide) ?_
  refine g_aload_n hX dX2_tire_7 rfl rfl ?_
  refine g_getf hX dX2_tire_8 fl_X2_21 (f0) rfl ?_
  refine g_iload_n hX dX2_tire_11 rfl rfl ?_
  refine g_iaload hX dX2_tire_12 (fti) (r) (by omega) rfl (by omega) ?_
  refine g_iconst (v := (nI 1)) hX dX2_tire_13 (by decide) ?_
  refine g_iadd hX dX2_tire_14 ?_
  refine g_mmin hX dX2_tire_15 ml_X2_49 w_mminS w_mI w_mminC (Nat.le_of_ble_eq_true rfl) (Nat.le_of_ble_eq_true rfl) (by omega) (by omega) ?_
  refine g_iastore hX dX2_tire_18 (fti) (r) (by omega) rfl (by omega) ?_
  refine g_aload_n hX dX2_tire_19 rfl rfl ?_
  refine g_getf hX dX2_tire_20 fl_X2_21 ((hs_ne (by omega)).trans (f0)) rfl ?_
  refine g_iload_n hX dX2_tire_23 rfl rfl ?_
  refine g_iaload hX dX2_tire_24 (hs_eq _ _ _) (r) (by omega) rfl (by omega) ?_
  refine g_top (v' := .int (if ((ti r) + (nI 1)) < (nI 20) then ((ti r) + (nI 1)) else (nI 20))) (congrArg Value.int pk_us) ?_
  refine g_iconst (v := (nI 2)) hX dX2_tire_25 (by decide) ?_
  refine g_aload_n hX dX2_tire_26 rfl rfl ?_
  refine g_getf hX dX2_tire_27 fl_X2_15 ((hs_ne (by omega)).trans (f0)) rfl ?_
  refine g_iload_n hX dX2_tire_30 rfl rfl ?_
  refine g_iaload hX dX2_tire_31 ((hs_ne (by omega)).trans (fsk)) (r) (by omega) rfl (by omega) ?_
  refine g_imul hX dX2_tire_32 ?_
  refine g_icmp_le (tgt := 56) hX dX2_tire_33 (by decide) (fun c1 => ?_) (fun c1 => ?_)
  · refine g_cg (h' := (hs (hs h (t + 4) (aI 20 (upd ti r (if ((ti r) + (nI 1)) < (nI 20) then ((ti r) + (nI 1)) else (nI 20))))) (t + 5) (aI 20 fa))) rfl (hs_id ((hs_ne (by omega)).trans (ffa))).symm ?_
    refine g_cg (h' := (hs (hs (hs h (t + 4) (aI 20 (upd ti r (if ((ti r) + (nI 1)) < (nI 20) then ((ti r) + (nI 1)) else (nI 20))))) (t + 5) (aI 20 fa)) (t + 6) (aI 20 tf))) rfl (hs_id ((hs_ne (by omega)).trans ((hs_ne (by omega)).trans (ftf)))).symm ?_
    refine g_return hX hr dX2_tire_56 (Nat.le_refl _) (Nat.le_refl _)  ?_
    have e : tireS sk r (ti, fa, tf) = (upd ti r (tiredV (ti r)), fa, tf) := if_neg (gn_ile.mpr c1)
    exact ⟨rfl, by rw [e]; rfl, rfl⟩
  · refine g_aload_n hX dX2_tire_36 rfl rfl ?_
    refine g_getf hX dX2_tire_37 fl_X2_24 ((hs_ne (by omega)).trans (f0)) rfl ?_
    refine g_iload_n hX dX2_tire_40 rfl rfl ?_
    refine g_dup2 hX dX2_tire_41 rfl rfl ?_
    refine g_iaload hX dX2_tire_42 ((hs_ne (by omega)).trans (ffa)) (r) (by omega) rfl (by omega) ?_
    refine g_iconst (v := (nI 1)) hX dX2_tire_43 (by decide) ?_
    refine g_iadd hX dX2_tire_44 ?_
    refine g_iastore hX dX2_tire_45 ((hs_ne (by omega)).trans (ffa)) (r) (by omega) rfl (by omega) ?_
    refine g_aload_n hX dX2_tire_46 rfl rfl ?_
    refine g_getf hX dX2_tire_47 fl_X2_27 ((hs_ne (by omega)).trans ((hs_ne (by omega)).trans (f0))) rfl ?_
    refine g_iload_n hX dX2_tire_50 rfl rfl ?_
    refine g_dup2 hX dX2_tire_51 rfl rfl ?_
    refine g_iaload hX dX2_tire_52 ((hs_ne (by omega)).trans ((hs_ne (by omega)).trans (ftf))) (r) (by omega) rfl (by omega) ?_
    refine g_iconst (v := (nI 1)) hX dX2_tire_53 (by decide) ?_
    refine g_iadd hX dX2_tire_54 ?_
    refine g_iastore hX dX2_tire_55 ((hs_ne (by omega)).trans ((hs_ne (by omega)).trans (ftf))) (r) (by omega) rfl (by omega) ?_
    refine g_return hX hr dX2_tire_56 (Nat.le_refl _) (Nat.le_refl _)  ?_
    have e : tireS sk r (ti, fa, tf) = (upd ti r (tiredV (ti r)), (upd fa r ((fa r) + (nI 1))), (upd tf r ((tf r) + (nI 1)))) := if_pos (gn_ilt.mp c1)
    exact ⟨rfl, by rw [e]; rfl, rfl⟩
set_option maxRecDepth 20000 in
theorem kX2_tireDodgers {l : Launch} {K : gw_K} (hst : l.stackTraces = false) {t rc n u b : Nat} {dy : Int32} {h : gw_H} {sk st mv ma : Nat → Int32} {s : TR} {cm rr : Int32} (f0 : h t = (oB 2 [.ref (t + 1), .ref (t + 2), .ref (t + 3), .ref (t + 4), .ref (t + 5), .ref (t + 6), .ref (t + 7), .ref (t + 8), .int (nI rc), .int dy])) (fsk : h (t + 2) = (aI 20 sk)) (fti : h (t + 4) = (aI 20 s.1)) (ffa : h (t + 5) = (aI 20 s.2.1)) (ftf : h (t + 6) = (aI 20 s.2.2)) (fst : h (t + 7) = (aI 20 st)) (g0 : h u = (oB 1 [.ref (u + 1), .ref (u + 2), .ref (u + 3), .ref (u + 4), .int cm, .int rr])) (g2 : h (u + 2) = (aI 6 mv)) (g3 : h (u + 3) = (aI 6 ma)) (htu : t + 9 ≤ u) (hrc : rc ≤ 20) (hb3 : b < 3) (hso : ∀ r, r < rc → seatOK (st r)) : Ctr l K mX2_tireDodgers [.ref t, .int (nI b), .ref u] h n 0 0 (PQ (none) (hs (hs (hs h (t + 4) (aI 20 ((tdI st sk rc b mv ma s).1))) (t + 5) (aI 20 ((tdI st sk rc b mv ma s).2.1))) (t + 6) (aI 20 ((tdI st sk rc b mv ma s).2.2))) n) (PX0) := by
  refine Ctr.of hst pn_X2_tireDodgers (Nat.le_of_ble_eq_true rfl) (fun X hX hr hE => ?_)
  have hX : FX l K X cX2_tireDodgers RX2 2 42 0 0 := hX
  show GW X 0 [some (.ref t), some (.int (nI b)), some (.ref u), none] [] h n 0 0
  refine g_iconst (v := (nI 0)) hX dX2_tireDodgers_0 (by decide) ?_
  refine g_istore_n (i := 3) hX dX2_tireDodgers_1 rfl (Nat.le_of_ble_eq_true rfl) rfl ?_
  refine g_cg (L' := [some (.ref t), some (.int (nI b)), some (.ref u), some (.int (nI 0))]) (h' := (hs (hs (hs h (t + 4) (aI 20 s.1)) (t + 5) (aI 20 s.2.1)) (t + 6) (aI 20 s.2.2))) (by rfl) (by rw [hs_id fti, hs_id ffa, hs_id ftf]) ?_
  refine g_for (P := fun (i : Nat) (s : TR) => GW X 2 [some (.ref t), some (.int (nI b)), some (.ref u), some (.int (nI i))] [] (hs (hs (hs h (t + 4) (aI 20 s.1)) (t + 5) (aI 20 s.2.1)) (t + 6) (aI 20 s.2.2)) n 0 0) (step := fun i s => tdP st sk b mv ma i s) rc s ?_ ?_
  · intro i1 s2 hi1 es2 ihi1
    have ihi1 : GW X 2 [some (.ref t), some (.int (nI b)), some (.ref u), some (.int (nI (i1 + 1)))] [] (hs (hs (hs h (t + 4) (aI 20 ((tdP st sk b mv ma i1 s2).1))) (t + 5) (aI 20 ((tdP st sk b mv ma i1 s2).2.1))) (t + 6) (aI 20 ((tdP st sk b mv ma i1 s2).2.2))) n 0 0 := ihi1
    refine g_iload_n hX dX2_tireDodgers_2 rfl rfl ?_
    refine g_aload_n hX dX2_tireDodgers_3 rfl rfl ?_
    refine g_getf hX dX2_tireDodgers_4 fl_X2_42 ((hs_ne (by omega)).trans ((hs_ne (by omega)).trans ((hs_ne (by omega)).trans (f0)))) rfl ?_
    refine g_icmp_geN (tgt := 42) hX dX2_tireDodgers_7 (by decide) (by omega) (fun c3 => absurd c3 (by omega)) (fun c3 => ?_)
    refine g_aload_n hX dX2_tireDodgers_10 rfl rfl ?_
    refine g_iload_n hX dX2_tireDodgers_11 rfl rfl ?_
    refine g_callV (As := [.int (nI i1)]) hX dX2_tireDodgers_12 cb_X2_bandOf ml_X2_62 im_X2_bandOf se_X2_bandOf rfl rfl ((hs_ne (by omega)).trans ((hs_ne (by omega)).trans ((hs_ne (by omega)).trans (f0)))) ⟨_, rfl, rfl⟩ (kX2_bandOf hst ((hs_ne (by omega)).trans ((hs_ne (by omega)).trans ((hs_ne (by omega)).trans (f0)))) ((hs_ne (by omega)).trans ((hs_ne (by omega)).trans ((hs_ne (by omega)).trans (fst)))) (by omega)) (Nat.le_of_ble_eq_true rfl) (Nat.le_of_ble_eq_true rfl) (by omega) (by omega) (Nat.le_of_ble_eq_true rfl) GX.no (pq ?_)
    show GW X 15 [some (.ref t), some (.int (nI b)), some (.ref u), some (.int (nI i1))] [.int (bandI (st i1))] (hs (hs (hs h (t + 4) (aI 20 s2.1)) (t + 5) (aI 20 s2.2.1)) (t + 6) (aI 20 s2.2.2)) n 0 0
    refine g_iload_n hX dX2_tireDodgers_15 rfl rfl ?_
    refine g_icmp_ne (tgt := 36) hX dX2_tireDodgers_16 (by decide) (fun c4 => ?_) (fun c4 => ?_)
    · refine g_iinc (v := (nI (i1 + 1))) hX dX2_tireDodgers_36 rfl rfl (gn_inc _ _) ?_
      refine g_goto (tgt := 2) hX dX2_tireDodgers_39 (by decide) ?_
      refine g_cv ihi1 rfl (by rw [tdP, if_neg (fun q => c4 q.1)])
    · refine g_aload_n hX dX2_tireDodgers_19 rfl rfl ?_
      refine g_aload_n hX dX2_tireDodgers_20 rfl rfl ?_
      refine g_iload_n hX dX2_tireDodgers_21 rfl rfl ?_
      refine g_callV (As := [.int (nI i1)]) hX dX2_tireDodgers_22 cb_X2_bellOf ml_X2_66 im_X2_bellOf se_X2_bellOf rfl rfl ((hs_ne (by omega)).trans ((hs_ne (by omega)).trans ((hs_ne (by omega)).trans (f0)))) ⟨_, rfl, rfl⟩ (kX2_bellOf hst ((hs_ne (by omega)).trans ((hs_ne (by omega)).trans ((hs_ne (by omega)).trans (f0)))) ((hs_ne (by omega)).trans ((hs_ne (by omega)).trans ((hs_ne (by omega)).trans (fst)))) (by omega)) (Nat.le_of_ble_eq_true rfl) (Nat.le_of_ble_eq_true rfl) (by omega) (by omega) (Nat.le_of_ble_eq_true rfl) GX.no (pq ?_)
      show GW X 25 [some (.ref t), some (.int (nI b)), some (.ref u), some (.int (nI i1))] [.int (bellI (st i1)), .ref u] (hs (hs (hs h (t + 4) (aI 20 s2.1)) (t + 5) (aI 20 s2.2.1)) (t + 6) (aI 20 s2.2.2)) n 0 0
      have hbn := bell_ok (hso i1 (by omega)) hb3 c4
      refine g_top (v' := .int (nI (bellN (st i1)))) (by rw [← hbn.1]) ?_
      have hbn2 := hbn.2
      refine g_callV (As := [.int (nI (bellN (st i1)))]) hX dX2_tireDodgers_25 cb_X1_hasDodged ml_X2_117 im_X1_hasDodged se_X1_hasDodged rfl rfl ((hs_ne (by omega)).trans ((hs_ne (by omega)).trans ((hs_ne (by omega)).trans (g0)))) ⟨_, rfl, rfl⟩ (kX1_hasDodged hst ((hs_ne (by omega)).trans ((hs_ne (by omega)).trans ((hs_ne (by omega)).trans (g0)))) ((hs_ne (by omega)).trans ((hs_ne (by omega)).trans ((hs_ne (by omega)).trans (g2)))) ((hs_ne (by omega)).trans ((hs_ne (by omega)).trans ((hs_ne (by omega)).trans (g3)))) (by omega)) (Nat.le_of_ble_eq_true rfl) (Nat.le_of_ble_eq_true rfl) (by omega) (by omega) (Nat.le_of_ble_eq_true rfl) GX.no (pq ?_)
      show GW X 28 [some (.ref t), some (.int (nI b)), some (.ref u), some (.int (nI i1))] [.int (if dodI mv ma (bellN (st i1)) then nI 1 else nI 0)] (hs (hs (hs h (t + 4) (aI 20 s2.1)) (t + 5) (aI 20 s2.2.1)) (t + 6) (aI 20 s2.2.2)) n 0 0
      refine g_ifB_eq (tgt := 36) hX dX2_tireDodgers_28 (by decide) (fun c5 => ?_) (fun c5 => ?_)
      · refine g_iinc (v := (nI (i1 + 1))) hX dX2_tireDodgers_36 rfl rfl (gn_inc _ _) ?_
        refine g_goto (tgt := 2) hX dX2_tireDodgers_39 (by decide) ?_
        refine g_cv ihi1 rfl (by rw [tdP, if_neg (fun q => c5 q.2)])
      · refine g_aload_n hX dX2_tireDodgers_31 rfl rfl ?_
        refine g_iload_n hX dX2_tireDodgers_32 rfl rfl ?_
        refine g_callV (As := [.int (nI i1)]) hX dX2_tireDodgers_33 cb_X2_tire ml_X2_120 im_X2_tire se_X2_tire rfl rfl ((hs_ne (by omega)).trans ((hs_ne (by omega)).trans ((hs_ne (by omega)).trans (f0)))) ⟨_, rfl, rfl⟩ (kX2_tire hst ((hs_ne (by omega)).trans ((hs_ne (by omega)).trans ((hs_ne (by omega)).trans (f0)))) ((hs_ne (by omega)).trans ((hs_ne (by omega)).trans ((hs_ne (by omega)).trans (fsk)))) ((hs_ne (by omega)).trans ((hs_ne (by omega)).trans (hs_eq _ _ _))) ((hs_ne (by omega)).trans (hs_eq _ _ _)) (hs_eq _ _ _) (by omega)) (Nat.le_of_ble_eq_true rfl) (Nat.le_of_ble_eq_true rfl) (by omega) (by omega) (Nat.le_of_ble_eq_true rfl) GX.no (pq ?_)
        show GW X 36 [some (.ref t), some (.int (nI b)), some (.ref u), some (.int (nI i1))] [] (hs (hs (hs (hs (hs (hs h (t + 4) (aI 20 s2.1)) (t + 5) (aI 20 s2.2.1)) (t + 6) (aI 20 s2.2.2)) (t + 4) (aI 20 ((tireS sk i1 s2).1))) (t + 5) (aI 20 ((tireS sk i1 s2).2.1))) (t + 6) (aI 20 ((tireS sk i1 s2).2.2))) n 0 0
        refine g_cg (h' := (hs (hs (hs h (t + 4) (aI 20 ((tireS sk i1 s2).1))) (t + 5) (aI 20 ((tireS sk i1 s2).2.1))) (t + 6) (aI 20 ((tireS sk i1 s2).2.2)))) rfl (by rw [hs_cm (k := t + 4) (j := t + 6) _ _ _ (by omega), hs_cm (k := t + 4) (j := t + 5) _ _ _ (by omega), hs_hs (k := t + 4), hs_cm (k := t + 5) (j := t + 6) _ _ _ (by omega), hs_hs (k := t + 5), hs_hs (k := t + 6)]) ?_
        refine g_iinc (v := (nI (i1 + 1))) hX dX2_tireDodgers_36 rfl rfl (gn_inc _ _) ?_
        refine g_goto (tgt := 2) hX dX2_tireDodgers_39 (by decide) ?_
        refine g_cv ihi1 rfl (by rw [tdP, if_pos ⟨c4, c5⟩])
  · refine g_iload_n hX dX2_tireDodgers_2 rfl rfl ?_
    refine g_aload_n hX dX2_tireDodgers_3 rfl rfl ?_
    refine g_getf hX dX2_tireDodgers_4 fl_X2_42 ((hs_ne (by omega)).trans ((hs_ne (by omega)).trans ((hs_ne (by omega)).trans (f0)))) rfl ?_
    refine g_icmp_geN (tgt := 42) hX dX2_tireDodgers_7 (by decide) (by omega) (fun c6 => ?_) (fun c6 => absurd c6 (by omega))
    refine g_return hX hr dX2_tireDodgers_42 (Nat.le_refl _) (Nat.le_refl _)  ?_
    exact ⟨rfl, rfl, rfl⟩
set_option maxRecDepth 20000 in
theorem kX2_ringTouch {l : Launch} {K : gw_K} (hst : l.stackTraces = false) {t rc n u b c m L : Nat} {dy : Int32} {h : gw_H} {sk vt ti fa tf st : Nat → Int32} {pl mv ma : Nat → Int32} {sn : Nat → Int64} {cm rr : Int32} {ld rw_ fr ho : Int32} {ch : Nat → Int32} (f0 : h t = (oB 2 [.ref (t + 1), .ref (t + 2), .ref (t + 3), .ref (t + 4), .ref (t + 5), .ref (t + 6), .ref (t + 7), .ref (t + 8), .int (nI rc), .int dy])) (fsk : h (t + 2) = (aI 20 sk)) (fvt : h (t + 3) = (aI 20 vt)) (fti : h (t + 4) = (aI 20 ti)) (ffa : h (t + 5) = (aI 20 fa)) (ftf : h (t + 6) = (aI 20 tf)) (fst : h (t + 7) = (aI 20 st)) (g0 : h u = (oB 1 [.ref (u + 1), .ref (u + 2), .ref (u + 3), .ref (u + 4), .int cm, .int rr])) (g1 : h (u + 1) = (aI 6 pl)) (g2 : h (u + 2) = (aI 6 mv)) (g3 : h (u + 3) = (aI 6 ma)) (g4 : h (u + 4) = (aJ 122 sn)) (l0 : h c = (oB 0 [.ref (c + 1), .ref (c + 2), .int (nI m), .int ld, .int rw_, .int fr, .int ho])) (l1 : h (c + 1) = (aI 12 ch)) (htu : t + 9 ≤ u) (huc : u + 5 ≤ c) (hrc : rc ≤ 20) (hb3 : b < 3) (hm12 : m ≤ 12) (hL12 : L ≤ 12) (hso : ∀ r, r < rc → seatOK (st r)) (hch : ∀ i, i < m → vchg (ch i)) : Ctr l K mX2_ringTouch [.ref t, .int (nI b), .ref c, .int (nI L), .ref u] h n 0 0 (PQ (some (.int (ringF (ringI st sk ti fa ch ma rc b m L)))) (putT (hs (hs (hs (hs h (t + 3) (aI 20 (vtI st (ringI st sk ti fa ch ma rc b m L).2.2.2 rc b (moreI (ringI st sk ti fa ch ma rc b m L).1.1 (ringF (ringI st sk ti fa ch ma rc b m L)) L) vt))) (t + 4) (aI 20 (((ringI st sk ti fa ch ma rc b m L).2).1))) (t + 5) (aI 20 (((ringI st sk ti fa ch ma rc b m L).2).2.1))) (t + 6) (aI 20 (((ringI st sk ti fa ch ma rc b m L).2).2.2))) u ((ringI st sk ti fa ch ma rc b m L).1)) n) (PX0) := by
  refine Ctr.of hst pn_X2_ringTouch (Nat.le_of_ble_eq_true rfl) (fun X hX hr hE => ?_)
  have hX : FX l K X cX2_ringTouch RX2 3 65 0 0 := hX
  show GW X 0 [some (.ref t), some (.int (nI b)), some (.ref c), some (.int (nI L)), some (.ref u), none, none, none, none] [] h n 0 0
  refine g_aload_n hX dX2_ringTouch_0 rfl rfl ?_
  refine g_getf hX dX2_ringTouch_1 fl_X2_27 (f0) rfl ?_
  refine g_iconst (v := (nI 0)) hX dX2_ringTouch_4 (by decide) ?_
  refine g_callS (As := [.ref (t + 6), .int (nI 0)]) hX dX2_ringTouch_5 cb_J7_fill_53178 ml_X2_79 st_J7_fill_53178 rfl rfl (kJ7_fill_53178 hst (ftf) (by omega)) (Nat.le_of_ble_eq_true rfl) (Nat.le_of_ble_eq_true rfl) (by omega) (by omega) (Nat.le_of_ble_eq_true rfl) GX.no (pq ?_)
  show GW X 8 [some (.ref t), some (.int (nI b)), some (.ref c), some (.int (nI L)), some (.ref u), none, none, none, none] [] (hs h (t + 6) (aI 20 (fun _ => (nI 0)))) n 0 0
  refine g_aload hX dX2_ringTouch_8 rfl ?_
  refine g_callV (As := []) hX dX2_ringTouch_10 cb_X1_begin ml_X2_85 im_X1_begin se_X1_begin rfl rfl ((hs_ne (by omega)).trans (g0)) ⟨_, rfl, rfl⟩ (kX1_begin hst ((hs_ne (by omega)).trans (g0)) ((hs_ne (by omega)).trans (g1)) ((hs_ne (by omega)).trans (g2)) ((hs_ne (by omega)).trans (g3)) ((hs_ne (by omega)).trans (g4))) (Nat.le_of_ble_eq_true rfl) (Nat.le_of_ble_eq_true rfl) (by omega) (by omega) (Nat.le_of_ble_eq_true rfl) GX.no (pq ?_)
  show GW X 13 [some (.ref t), some (.int (nI b)), some (.ref c), some (.int (nI L)), some (.ref u), none, none, none, none] [] (putT (hs h (t + 6) (aI 20 (fun _ => (nI 0)))) u (tbegin ma)) n 0 0
  refine g_iconst (v := (nI 0)) hX dX2_ringTouch_13 (by decide) ?_
  refine g_istore hX dX2_ringTouch_14 (Nat.le_of_ble_eq_true rfl) rfl ?_
  refine g_cg (h' := (hs (putT (hs h (t + 6) (aI 20 (fun _ => (nI 0)))) u (tbegin ma)) (t + 4) (aI 20 ti))) rfl (hs_id ((putT_ne (by omega)).trans ((hs_ne (by omega)).trans (fti)))).symm ?_
  refine g_cg (h' := (hs (hs (putT (hs h (t + 6) (aI 20 (fun _ => (nI 0)))) u (tbegin ma)) (t + 4) (aI 20 ti)) (t + 5) (aI 20 fa))) rfl (hs_id ((hs_ne (by omega)).trans ((putT_ne (by omega)).trans ((hs_ne (by omega)).trans (ffa))))).symm ?_
  refine g_cg (h' := (putT (hs (hs (hs h (t + 4) (aI 20 ti)) (t + 5) (aI 20 fa)) (t + 6) (aI 20 (fun _ => (nI 0)))) u (tbegin ma))) rfl (by rw [putT_lo (k := t + 4) (u := u) (by omega), hs_cm (k := t + 4) (j := t + 6) _ _ _ (by omega), putT_lo (k := t + 5) (u := u) (by omega), hs_cm (k := t + 5) (j := t + 6) _ _ _ (by omega)]) ?_
  have hA := rtA_ok (st := st) (sk := sk) (rc := rc) (b := b) (s := ((tbegin ma, ti, fa, fun _ => nI 0) : TT × TR)) hch (fun _ h => h) L
  refine g_cg (L' := [some (.ref t), some (.int (nI b)), some (.ref c), some (.int (nI L)), some (.ref u), some (.int (nI 0)), none, none, none]) (h' := (putT (hs (hs (hs h (t + 4) (aI 20 ((((tbegin ma, ti, fa, fun _ => nI 0) : TT × TR).2).1))) (t + 5) (aI 20 ((((tbegin ma, ti, fa, fun _ => nI 0) : TT × TR).2).2.1))) (t + 6) (aI 20 ((((tbegin ma, ti, fa, fun _ => nI 0) : TT × TR).2).2.2))) u (((tbegin ma, ti, fa, fun _ => nI 0) : TT × TR).1))) (by rfl) (by rfl) ?_
  refine g_for (P := fun (i : Nat) (s : TT × TR) => GW X 16 [some (.ref t), some (.int (nI b)), some (.ref c), some (.int (nI L)), some (.ref u), some (.int (nI i)), none, none, none] [] (putT (hs (hs (hs h (t + 4) (aI 20 s.2.1)) (t + 5) (aI 20 s.2.2.1)) (t + 6) (aI 20 s.2.2.2)) u s.1) n 0 0) (step := fun i s => rtL st sk ch rc b m s) L ((tbegin ma, ti, fa, fun _ => nI 0) : TT × TR) ?_ ?_
  · intro i1 s2 hi1 es2 ihi1
    have ihi1 : GW X 16 [some (.ref t), some (.int (nI b)), some (.ref c), some (.int (nI L)), some (.ref u), some (.int (nI (i1 + 1))), none, none, none] [] (putT (hs (hs (hs h (t + 4) (aI 20 (((rtL st sk ch rc b m s2).2).1))) (t + 5) (aI 20 (((rtL st sk ch rc b m s2).2).2.1))) (t + 6) (aI 20 (((rtL st sk ch rc b m s2).2).2.2))) u ((rtL st sk ch rc b m s2).1)) n 0 0 := ihi1
    have hp1 : vplc s2.1.1 := by
      have q := hA i1 (by omega)
      rw [← es2] at q
      exact q
    refine g_iload hX dX2_ringTouch_16 rfl ?_
    refine g_iload_n hX dX2_ringTouch_18 rfl rfl ?_
    refine g_icmp_geN (tgt := 64) hX dX2_ringTouch_19 (by decide) (by omega) (fun c3 => absurd c3 (by omega)) (fun c3 => ?_)
    refine g_iconst (v := (nI 0)) hX dX2_ringTouch_22 (by decide) ?_
    refine g_istore hX dX2_ringTouch_23 (Nat.le_of_ble_eq_true rfl) rfl ?_
    have hB := rtL_ok (st := st) (sk := sk) (rc := rc) (b := b) (s := s2) hch hp1
    refine g_for (P := fun (i : Nat) (s : TT × TR) => GW X 25 [some (.ref t), some (.int (nI b)), some (.ref c), some (.int (nI L)), some (.ref u), some (.int (nI i1)), some (.int (nI i)), none, none] [] (putT (hs (hs (hs h (t + 4) (aI 20 s.2.1)) (t + 5) (aI 20 s.2.2.1)) (t + 6) (aI 20 s.2.2.2)) u s.1) n 0 0) (step := fun i s => rtS st sk rc b (ch i) s) m s2 ?_ ?_
    · intro i4 s5 hi4 es5 ihi4
      have ihi4 : GW X 25 [some (.ref t), some (.int (nI b)), some (.ref c), some (.int (nI L)), some (.ref u), some (.int (nI i1)), some (.int (nI (i4 + 1))), none, none] [] (putT (hs (hs (hs h (t + 4) (aI 20 (((rtS st sk rc b (ch i4) s5).2).1))) (t + 5) (aI 20 (((rtS st sk rc b (ch i4) s5).2).2.1))) (t + 6) (aI 20 (((rtS st sk rc b (ch i4) s5).2).2.2))) u ((rtS st sk rc b (ch i4) s5).1)) n 0 0 := ihi4
      have hp2 : vplc s5.1.1 := by
        have q := hB i4 (by omega)
        rw [← es5] at q
        exact q
      have hci := hch i4 hi4
      refine g_iload hX dX2_ringTouch_25 rfl ?_
      refine g_aload_n hX dX2_ringTouch_27 rfl rfl ?_
      refine g_getf hX dX2_ringTouch_28 fl_X2_90 ((putT_ne (by omega)).trans ((hs_ne (by omega)).trans ((hs_ne (by omega)).trans ((hs_ne (by omega)).trans (l0))))) rfl ?_
      refine g_icmp_geN (tgt := 58) hX dX2_ringTouch_31 (by decide) (by omega) (fun c6 => absurd c6 (by omega)) (fun c6 => ?_)
      refine g_aload hX dX2_ringTouch_34 rfl ?_
      refine g_aload_n hX dX2_ringTouch_36 rfl rfl ?_
      refine g_iload hX dX2_ringTouch_37 rfl ?_
      refine g_callV (As := [.int (nI i4)]) hX dX2_ringTouch_39 cb_X0_changeAt ml_X2_95 im_X0_changeAt se_X0_changeAt rfl rfl ((putT_ne (by omega)).trans ((hs_ne (by omega)).trans ((hs_ne (by omega)).trans ((hs_ne (by omega)).trans (l0))))) ⟨_, rfl, rfl⟩ (kX0_changeAt hst ((putT_ne (by omega)).trans ((hs_ne (by omega)).trans ((hs_ne (by omega)).trans ((hs_ne (by omega)).trans (l0))))) ((putT_ne (by omega)).trans ((hs_ne (by omega)).trans ((hs_ne (by omega)).trans ((hs_ne (by omega)).trans (l1))))) (by omega) (by omega)) (Nat.le_of_ble_eq_true rfl) (Nat.le_of_ble_eq_true rfl) (by omega) (by omega) (Nat.le_of_ble_eq_true rfl) GX.no (pq ?_)
      show GW X 42 [some (.ref t), some (.int (nI b)), some (.ref c), some (.int (nI L)), some (.ref u), some (.int (nI i1)), some (.int (nI i4)), none, none] [.int (ch i4), .ref u] (putT (hs (hs (hs h (t + 4) (aI 20 s5.2.1)) (t + 5) (aI 20 s5.2.2.1)) (t + 6) (aI 20 s5.2.2.2)) u s5.1) n 0 0
      refine g_callV (As := [.int (ch i4)]) hX dX2_ringTouch_42 cb_X1_makeChange ml_X2_98 im_X1_makeChange se_X1_makeChange rfl rfl (putT_0) ⟨_, rfl, rfl⟩ (kX1_makeChange hst (putT_0) (putT_1) (putT_2) (putT_3) (putT_4) (hci) (hp2)) (Nat.le_of_ble_eq_true rfl) (Nat.le_of_ble_eq_true rfl) (by omega) (by omega) (Nat.le_of_ble_eq_true rfl) GX.no (pq ?_)
      show GW X 45 [some (.ref t), some (.int (nI b)), some (.ref c), some (.int (nI L)), some (.ref u), some (.int (nI i1)), some (.int (nI i4)), none, none] [] (putT (putT (hs (hs (hs h (t + 4) (aI 20 s5.2.1)) (t + 5) (aI 20 s5.2.2.1)) (t + 6) (aI 20 s5.2.2.2)) u s5.1) u (tstep (ch i4) s5.1)) n 0 0
      refine g_cg rfl putT_putT ?_
      refine g_aload_n hX dX2_ringTouch_45 rfl rfl ?_
      refine g_iload_n hX dX2_ringTouch_46 rfl rfl ?_
      refine g_aload hX dX2_ringTouch_47 rfl ?_
      refine g_callV (As := [.int (nI b), .ref u]) hX dX2_ringTouch_49 cb_X2_tireDodgers ml_X2_101 im_X2_tireDodgers se_X2_tireDodgers rfl rfl ((putT_ne (by omega)).trans ((hs_ne (by omega)).trans ((hs_ne (by omega)).trans ((hs_ne (by omega)).trans (f0))))) ⟨_, rfl, rfl⟩ (kX2_tireDodgers (s := s5.2) hst ((putT_ne (by omega)).trans ((hs_ne (by omega)).trans ((hs_ne (by omega)).trans ((hs_ne (by omega)).trans (f0))))) ((putT_ne (by omega)).trans ((hs_ne (by omega)).trans ((hs_ne (by omega)).trans ((hs_ne (by omega)).trans (fsk))))) ((putT_ne (by omega)).trans ((hs_ne (by omega)).trans ((hs_ne (by omega)).trans (hs_eq _ _ _)))) ((putT_ne (by omega)).trans ((hs_ne (by omega)).trans (hs_eq _ _ _))) ((putT_ne (by omega)).trans (hs_eq _ _ _)) ((putT_ne (by omega)).trans ((hs_ne (by omega)).trans ((hs_ne (by omega)).trans ((hs_ne (by omega)).trans (fst))))) (putT_0) (putT_2) (putT_3) (by omega) (by omega) (by omega) hso) (Nat.le_of_ble_eq_true rfl) (Nat.le_of_ble_eq_true rfl) (by omega) (by omega) (Nat.le_of_ble_eq_true rfl) GX.no (pq ?_)
      show GW X 52 [some (.ref t), some (.int (nI b)), some (.ref c), some (.int (nI L)), some (.ref u), some (.int (nI i1)), some (.int (nI i4)), none, none] [] (hs (hs (hs (putT (hs (hs (hs h (t + 4) (aI 20 s5.2.1)) (t + 5) (aI 20 s5.2.2.1)) (t + 6) (aI 20 s5.2.2.2)) u (tstep (ch i4) s5.1)) (t + 4) (aI 20 ((tdI st sk rc b ((tstep (ch i4) s5.1).2.1) ((tstep (ch i4) s5.1).2.2.1) s5.2).1))) (t + 5) (aI 20 ((tdI st sk rc b ((tstep (ch i4) s5.1).2.1) ((tstep (ch i4) s5.1).2.2.1) s5.2).2.1))) (t + 6) (aI 20 ((tdI st sk rc b ((tstep (ch i4) s5.1).2.1) ((tstep (ch i4) s5.1).2.2.1) s5.2).2.2))) n 0 0
      refine g_cg (h' := (putT (hs (hs (hs h (t + 4) (aI 20 ((tdI st sk rc b ((tstep (ch i4) s5.1).2.1) ((tstep (ch i4) s5.1).2.2.1) s5.2).1))) (t + 5) (aI 20 ((tdI st sk rc b ((tstep (ch i4) s5.1).2.1) ((tstep (ch i4) s5.1).2.2.1) s5.2).2.1))) (t + 6) (aI 20 ((tdI st sk rc b ((tstep (ch i4) s5.1).2.1) ((tstep (ch i4) s5.1).2.2.1) s5.2).2.2))) u (tstep (ch i4) s5.1))) rfl (by rw [putT_lo (k := t + 4) (u := u) (by omega), hs_cm (k := t + 4) (j := t + 6) _ _ _ (by omega), hs_cm (k := t + 4) (j := t + 5) _ _ _ (by omega), hs_hs (k := t + 4), putT_lo (k := t + 5) (u := u) (by omega), hs_cm (k := t + 5) (j := t + 6) _ _ _ (by omega), hs_hs (k := t + 5), putT_lo (k := t + 6) (u := u) (by omega), hs_hs (k := t + 6)]) ?_
      refine g_iinc (v := (nI (i4 + 1))) hX dX2_ringTouch_52 rfl rfl (gn_inc _ _) ?_
      refine g_goto (tgt := 25) hX dX2_ringTouch_55 (by decide) ?_
      refine g_cv ihi4 rfl rfl
    · refine g_iload hX dX2_ringTouch_25 rfl ?_
      refine g_aload_n hX dX2_ringTouch_27 rfl rfl ?_
      refine g_getf hX dX2_ringTouch_28 fl_X2_90 ((putT_ne (by omega)).trans ((hs_ne (by omega)).trans ((hs_ne (by omega)).trans ((hs_ne (by omega)).trans (l0))))) rfl ?_
      refine g_icmp_geN (tgt := 58) hX dX2_ringTouch_31 (by decide) (by omega) (fun c7 => ?_) (fun c7 => absurd c7 (by omega))
      refine g_iinc (v := (nI (i1 + 1))) hX dX2_ringTouch_58 rfl rfl (gn_inc _ _) ?_
      refine g_goto (tgt := 16) hX dX2_ringTouch_61 (by decide) ?_
      refine g_kill 6 ?_
      refine g_cv ihi1 rfl rfl
  · show GW X 16 [some (.ref t), some (.int (nI b)), some (.ref c), some (.int (nI L)), some (.ref u), some (.int (nI L)), none, none, none] [] (putT (hs (hs (hs h (t + 4) (aI 20 (((ringI st sk ti fa ch ma rc b m L).2).1))) (t + 5) (aI 20 (((ringI st sk ti fa ch ma rc b m L).2).2.1))) (t + 6) (aI 20 (((ringI st sk ti fa ch ma rc b m L).2).2.2))) u ((ringI st sk ti fa ch ma rc b m L).1)) n 0 0
    refine g_iload hX dX2_ringTouch_16 rfl ?_
    refine g_iload_n hX dX2_ringTouch_18 rfl rfl ?_
    refine g_icmp_geN (tgt := 64) hX dX2_ringTouch_19 (by decide) (by omega) (fun c8 => ?_) (fun c8 => absurd c8 (by omega))
    have hpF : vplc (ringI st sk ti fa ch ma rc b m L).1.1 := hA L (Nat.le_refl L)
    refine g_aload hX dX2_ringTouch_64 rfl ?_
    refine g_callV (As := []) hX dX2_ringTouch_66 cb_X1_falseRows ml_X2_105 im_X1_falseRows se_X1_falseRows rfl rfl (putT_0) ⟨_, rfl, rfl⟩ (kX1_falseRows hst (putT_0) (putT_1) (hpF)) (Nat.le_of_ble_eq_true rfl) (Nat.le_of_ble_eq_true rfl) (by omega) (by omega) (Nat.le_of_ble_eq_true rfl) GX.no (pq ?_)
    show GW X 69 [some (.ref t), some (.int (nI b)), some (.ref c), some (.int (nI L)), some (.ref u), some (.int (nI L)), none, none, none] [.int (frI ((ringI st sk ti fa ch ma rc b m L).1.1) ((ringI st sk ti fa ch ma rc b m L).1.2.2.2.2.1) ((ringI st sk ti fa ch ma rc b m L).1.2.2.2.2.2))] (putT (hs (hs (hs h (t + 4) (aI 20 (((ringI st sk ti fa ch ma rc b m L).2).1))) (t + 5) (aI 20 (((ringI st sk ti fa ch ma rc b m L).2).2.1))) (t + 6) (aI 20 (((ringI st sk ti fa ch ma rc b m L).2).2.2))) u ((ringI st sk ti fa ch ma rc b m L).1)) n 0 0
    refine g_istore hX dX2_ringTouch_69 (Nat.le_of_ble_eq_true rfl) rfl ?_
    refine g_iload hX dX2_ringTouch_71 rfl ?_
    refine g_if_ne (tgt := 88) hX dX2_ringTouch_73 (by decide) (fun c9 => ?_) (fun c9 => ?_)
    · refine g_iconst (v := (nI 0)) hX dX2_ringTouch_88 (by decide) ?_
      refine g_istore hX dX2_ringTouch_89 (Nat.le_of_ble_eq_true rfl) rfl ?_
      refine g_iload hX dX2_ringTouch_91 rfl ?_
      refine g_if_eq (tgt := 100) hX dX2_ringTouch_93 (by decide) (fun _ => ?_) (fun c => absurd (by decide) c)
      refine g_iload hX dX2_ringTouch_100 rfl ?_
      refine g_ineg hX dX2_ringTouch_102 ?_
      refine g_istore hX dX2_ringTouch_103 (Nat.le_of_ble_eq_true rfl) rfl ?_
      refine g_iconst (v := (nI 0)) hX dX2_ringTouch_105 (by decide) ?_
      refine g_istore hX dX2_ringTouch_106 (Nat.le_of_ble_eq_true rfl) rfl ?_
      have hmo : moreI (ringI st sk ti fa ch ma rc b m L).1.1 (ringF (ringI st sk ti fa ch ma rc b m L)) L = (-(frI ((ringI st sk ti fa ch ma rc b m L).1.1) ((ringI st sk ti fa ch ma rc b m L).1.2.2.2.2.1) ((ringI st sk ti fa ch ma rc b m L).1.2.2.2.2.2))) := if_neg (fun q => c9 q.1)
      refine g_cg (L' := [some (.ref t), some (.int (nI b)), some (.ref c), some (.int (nI L)), some (.ref u), some (.int (frI ((ringI st sk ti fa ch ma rc b m L).1.1) ((ringI st sk ti fa ch ma rc b m L).1.2.2.2.2.1) ((ringI st sk ti fa ch ma rc b m L).1.2.2.2.2.2))), some (.int (nI 0)), some (.int (moreI (ringI st sk ti fa ch ma rc b m L).1.1 (ringF (ringI st sk ti fa ch ma rc b m L)) L)), some (.int (nI 0))]) (by rw [hmo]; rfl) rfl ?_
      refine g_cg (h' := (hs (putT (hs (hs (hs h (t + 4) (aI 20 (((ringI st sk ti fa ch ma rc b m L).2).1))) (t + 5) (aI 20 (((ringI st sk ti fa ch ma rc b m L).2).2.1))) (t + 6) (aI 20 (((ringI st sk ti fa ch ma rc b m L).2).2.2))) u ((ringI st sk ti fa ch ma rc b m L).1)) (t + 3) (aI 20 vt))) rfl (hs_id ((putT_ne (by omega)).trans ((hs_ne (by omega)).trans ((hs_ne (by omega)).trans ((hs_ne (by omega)).trans (fvt)))))).symm ?_
      refine g_cg (h' := (putT (hs (hs (hs (hs h (t + 3) (aI 20 vt)) (t + 4) (aI 20 (((ringI st sk ti fa ch ma rc b m L).2).1))) (t + 5) (aI 20 (((ringI st sk ti fa ch ma rc b m L).2).2.1))) (t + 6) (aI 20 (((ringI st sk ti fa ch ma rc b m L).2).2.2))) u ((ringI st sk ti fa ch ma rc b m L).1))) rfl (by rw [putT_lo (k := t + 3) (u := u) (by omega), hs_cm (k := t + 3) (j := t + 6) _ _ _ (by omega), hs_cm (k := t + 3) (j := t + 5) _ _ _ (by omega), hs_cm (k := t + 3) (j := t + 4) _ _ _ (by omega)]) ?_
      refine g_for (P := fun (i : Nat) (s : Nat → Int32) => GW X 108 [some (.ref t), some (.int (nI b)), some (.ref c), some (.int (nI L)), some (.ref u), some (.int (frI ((ringI st sk ti fa ch ma rc b m L).1.1) ((ringI st sk ti fa ch ma rc b m L).1.2.2.2.2.1) ((ringI st sk ti fa ch ma rc b m L).1.2.2.2.2.2))), some (.int (nI 0)), some (.int (moreI (ringI st sk ti fa ch ma rc b m L).1.1 (ringF (ringI st sk ti fa ch ma rc b m L)) L)), some (.int (nI i))] [] (putT (hs (hs (hs (hs h (t + 3) (aI 20 s)) (t + 4) (aI 20 (((ringI st sk ti fa ch ma rc b m L).2).1))) (t + 5) (aI 20 (((ringI st sk ti fa ch ma rc b m L).2).2.1))) (t + 6) (aI 20 (((ringI st sk ti fa ch ma rc b m L).2).2.2))) u ((ringI st sk ti fa ch ma rc b m L).1)) n 0 0) (step := fun i s => vtP st (ringI st sk ti fa ch ma rc b m L).2.2.2 b (moreI (ringI st sk ti fa ch ma rc b m L).1.1 (ringF (ringI st sk ti fa ch ma rc b m L)) L) i s) rc vt ?_ ?_
      · intro i10 s11 hi10 es11 ihi10
        have ihi10 : GW X 108 [some (.ref t), some (.int (nI b)), some (.ref c), some (.int (nI L)), some (.ref u), some (.int (frI ((ringI st sk ti fa ch ma rc b m L).1.1) ((ringI st sk ti fa ch ma rc b m L).1.2.2.2.2.1) ((ringI st sk ti fa ch ma rc b m L).1.2.2.2.2.2))), some (.int (nI 0)), some (.int (moreI (ringI st sk ti fa ch ma rc b m L).1.1 (ringF (ringI st sk ti fa ch ma rc b m L)) L)), some (.int (nI (i10 + 1)))] [] (putT (hs (hs (hs (hs h (t + 3) (aI 20 (vtP st (ringI st sk ti fa ch ma rc b m L).2.2.2 b (moreI (ringI st sk ti fa ch ma rc b m L).1.1 (ringF (ringI st sk ti fa ch ma rc b m L)) L) i10 s11))) (t + 4) (aI 20 (((ringI st sk ti fa ch ma rc b m L).2).1))) (t + 5) (aI 20 (((ringI st sk ti fa ch ma rc b m L).2).2.1))) (t + 6) (aI 20 (((ringI st sk ti fa ch ma rc b m L).2).2.2))) u ((ringI st sk ti fa ch ma rc b m L).1)) n 0 0 := ihi10
        refine g_iload hX dX2_ringTouch_108 rfl ?_
        refine g_aload_n hX dX2_ringTouch_110 rfl rfl ?_
        refine g_getf hX dX2_ringTouch_111 fl_X2_42 ((putT_ne (by omega)).trans ((hs_ne (by omega)).trans ((hs_ne (by omega)).trans ((hs_ne (by omega)).trans ((hs_ne (by omega)).trans (f0)))))) rfl ?_
        refine g_icmp_geN (tgt := 149) hX dX2_ringTouch_114 (by decide) (by omega) (fun c12 => absurd c12 (by omega)) (fun c12 => ?_)
        refine g_aload_n hX dX2_ringTouch_117 rfl rfl ?_
        refine g_iload hX dX2_ringTouch_118 rfl ?_
        refine g_callV (As := [.int (nI i10)]) hX dX2_ringTouch_120 cb_X2_bandOf ml_X2_62 im_X2_bandOf se_X2_bandOf rfl rfl ((putT_ne (by omega)).trans ((hs_ne (by omega)).trans ((hs_ne (by omega)).trans ((hs_ne (by omega)).trans ((hs_ne (by omega)).trans (f0)))))) ⟨_, rfl, rfl⟩ (kX2_bandOf hst ((putT_ne (by omega)).trans ((hs_ne (by omega)).trans ((hs_ne (by omega)).trans ((hs_ne (by omega)).trans ((hs_ne (by omega)).trans (f0)))))) ((putT_ne (by omega)).trans ((hs_ne (by omega)).trans ((hs_ne (by omega)).trans ((hs_ne (by omega)).trans ((hs_ne (by omega)).trans (fst)))))) (by omega)) (Nat.le_of_ble_eq_true rfl) (Nat.le_of_ble_eq_true rfl) (by omega) (by omega) (Nat.le_of_ble_eq_true rfl) GX.no (pq ?_)
        show GW X 123 [some (.ref t), some (.int (nI b)), some (.ref c), some (.int (nI L)), some (.ref u), some (.int (frI ((ringI st sk ti fa ch ma rc b m L).1.1) ((ringI st sk ti fa ch ma rc b m L).1.2.2.2.2.1) ((ringI st sk ti fa ch ma rc b m L).1.2.2.2.2.2))), some (.int (nI 0)), some (.int (moreI (ringI st sk ti fa ch ma rc b m L).1.1 (ringF (ringI st sk ti fa ch ma rc b m L)) L)), some (.int (nI i10))] [.int (bandI (st i10))] (putT (hs (hs (hs (hs h (t + 3) (aI 20 s11)) (t + 4) (aI 20 (((ringI st sk ti fa ch ma rc b m L).2).1))) (t + 5) (aI 20 (((ringI st sk ti fa ch ma rc b m L).2).2.1))) (t + 6) (aI 20 (((ringI st sk ti fa ch ma rc b m L).2).2.2))) u ((ringI st sk ti fa ch ma rc b m L).1)) n 0 0
        refine g_iload_n hX dX2_ringTouch_123 rfl rfl ?_
        refine g_icmp_ne (tgt := 143) hX dX2_ringTouch_124 (by decide) (fun c13 => ?_) (fun c13 => ?_)
        · refine g_iinc (v := (nI (i10 + 1))) hX dX2_ringTouch_143 rfl rfl (gn_inc _ _) ?_
          refine g_goto (tgt := 108) hX dX2_ringTouch_146 (by decide) ?_
          refine g_cv ihi10 rfl (by rw [vtP, if_neg c13])
        · refine g_aload_n hX dX2_ringTouch_127 rfl rfl ?_
          refine g_iload hX dX2_ringTouch_128 rfl ?_
          refine g_iload hX dX2_ringTouch_130 rfl ?_
          refine g_aload_n hX dX2_ringTouch_132 rfl rfl ?_
          refine g_getf hX dX2_ringTouch_133 fl_X2_27 ((putT_ne (by omega)).trans ((hs_ne (by omega)).trans ((hs_ne (by omega)).trans ((hs_ne (by omega)).trans ((hs_ne (by omega)).trans (f0)))))) rfl ?_
          refine g_iload hX dX2_ringTouch_136 rfl ?_
          refine g_iaload hX dX2_ringTouch_138 ((putT_ne (by omega)).trans (hs_eq _ _ _)) (i10) (by omega) rfl (by omega) ?_
          refine g_isub hX dX2_ringTouch_139 ?_
          refine g_callV (As := [.int (nI i10), .int ((moreI (ringI st sk ti fa ch ma rc b m L).1.1 (ringF (ringI st sk ti fa ch ma rc b m L)) L) - ((((ringI st sk ti fa ch ma rc b m L).2).2.2) i10))]) hX dX2_ringTouch_140 cb_X2_changeVotes ml_X2_113 im_X2_changeVotes se_X2_changeVotes rfl rfl ((putT_ne (by omega)).trans ((hs_ne (by omega)).trans ((hs_ne (by omega)).trans ((hs_ne (by omega)).trans ((hs_ne (by omega)).trans (f0)))))) ⟨_, rfl, rfl⟩ (kX2_changeVotes hst ((putT_ne (by omega)).trans ((hs_ne (by omega)).trans ((hs_ne (by omega)).trans ((hs_ne (by omega)).trans ((hs_ne (by omega)).trans (f0)))))) ((putT_ne (by omega)).trans ((hs_ne (by omega)).trans ((hs_ne (by omega)).trans ((hs_ne (by omega)).trans (hs_eq _ _ _))))) (by omega)) (Nat.le_of_ble_eq_true rfl) (Nat.le_of_ble_eq_true rfl) (by omega) (by omega) (Nat.le_of_ble_eq_true rfl) GX.no (pq ?_)
          show GW X 143 [some (.ref t), some (.int (nI b)), some (.ref c), some (.int (nI L)), some (.ref u), some (.int (frI ((ringI st sk ti fa ch ma rc b m L).1.1) ((ringI st sk ti fa ch ma rc b m L).1.2.2.2.2.1) ((ringI st sk ti fa ch ma rc b m L).1.2.2.2.2.2))), some (.int (nI 0)), some (.int (moreI (ringI st sk ti fa ch ma rc b m L).1.1 (ringF (ringI st sk ti fa ch ma rc b m L)) L)), some (.int (nI i10))] [] (hs (putT (hs (hs (hs (hs h (t + 3) (aI 20 s11)) (t + 4) (aI 20 (((ringI st sk ti fa ch ma rc b m L).2).1))) (t + 5) (aI 20 (((ringI st sk ti fa ch ma rc b m L).2).2.1))) (t + 6) (aI 20 (((ringI st sk ti fa ch ma rc b m L).2).2.2))) u ((ringI st sk ti fa ch ma rc b m L).1)) (t + 3) (aI 20 (upd s11 i10 (clampI (s11 i10 + ((moreI (ringI st sk ti fa ch ma rc b m L).1.1 (ringF (ringI st sk ti fa ch ma rc b m L)) L) - ((((ringI st sk ti fa ch ma rc b m L).2).2.2) i10))))))) n 0 0
          refine g_iinc (v := (nI (i10 + 1))) hX dX2_ringTouch_143 rfl rfl (gn_inc _ _) ?_
          refine g_goto (tgt := 108) hX dX2_ringTouch_146 (by decide) ?_
          refine g_cg (h' := (putT (hs (hs (hs (hs h (t + 3) (aI 20 (upd s11 i10 (clampI (s11 i10 + ((moreI (ringI st sk ti fa ch ma rc b m L).1.1 (ringF (ringI st sk ti fa ch ma rc b m L)) L) - ((((ringI st sk ti fa ch ma rc b m L).2).2.2) i10))))))) (t + 4) (aI 20 (((ringI st sk ti fa ch ma rc b m L).2).1))) (t + 5) (aI 20 (((ringI st sk ti fa ch ma rc b m L).2).2.1))) (t + 6) (aI 20 (((ringI st sk ti fa ch ma rc b m L).2).2.2))) u ((ringI st sk ti fa ch ma rc b m L).1))) rfl (by rw [putT_lo (k := t + 3) (u := u) (by omega), hs_cm (k := t + 3) (j := t + 6) _ _ _ (by omega), hs_cm (k := t + 3) (j := t + 5) _ _ _ (by omega), hs_cm (k := t + 3) (j := t + 4) _ _ _ (by omega), hs_hs (k := t + 3)]) ?_
          refine g_cv ihi10 rfl (by rw [vtP, if_pos c13])
      · refine g_iload hX dX2_ringTouch_108 rfl ?_
        refine g_aload_n hX dX2_ringTouch_110 rfl rfl ?_
        refine g_getf hX dX2_ringTouch_111 fl_X2_42 ((putT_ne (by omega)).trans ((hs_ne (by omega)).trans ((hs_ne (by omega)).trans ((hs_ne (by omega)).trans ((hs_ne (by omega)).trans (f0)))))) rfl ?_
        refine g_icmp_geN (tgt := 149) hX dX2_ringTouch_114 (by decide) (by omega) (fun c14 => ?_) (fun c14 => absurd c14 (by omega))
        refine g_iload hX dX2_ringTouch_149 rfl ?_
        refine g_ireturn hX hr dX2_ringTouch_151 (Nat.le_refl _) (Nat.le_refl _)  ?_
        exact ⟨rfl, rfl, rfl⟩
    · refine g_aload hX dX2_ringTouch_76 rfl ?_
      refine g_callV (As := []) hX dX2_ringTouch_78 cb_X1_isRounds ml_X2_109 im_X1_isRounds se_X1_isRounds rfl rfl (putT_0) ⟨_, rfl, rfl⟩ (kX1_isRounds hst (putT_0) (putT_1) (hpF)) (Nat.le_of_ble_eq_true rfl) (Nat.le_of_ble_eq_true rfl) (by omega) (by omega) (Nat.le_of_ble_eq_true rfl) GX.no (pq ?_)
      show GW X 81 [some (.ref t), some (.int (nI b)), some (.ref c), some (.int (nI L)), some (.ref u), some (.int (frI ((ringI st sk ti fa ch ma rc b m L).1.1) ((ringI st sk ti fa ch ma rc b m L).1.2.2.2.2.1) ((ringI st sk ti fa ch ma rc b m L).1.2.2.2.2.2))), none, none, none] [.int (if homeI ((ringI st sk ti fa ch ma rc b m L).1.1) = nI 6 then nI 1 else nI 0)] (putT (hs (hs (hs h (t + 4) (aI 20 (((ringI st sk ti fa ch ma rc b m L).2).1))) (t + 5) (aI 20 (((ringI st sk ti fa ch ma rc b m L).2).2.1))) (t + 6) (aI 20 (((ringI st sk ti fa ch ma rc b m L).2).2.2))) u ((ringI st sk ti fa ch ma rc b m L).1)) n 0 0
      refine g_ifB_eq (tgt := 88) hX dX2_ringTouch_81 (by decide) (fun c15 => ?_) (fun c15 => ?_)
      · refine g_iconst (v := (nI 0)) hX dX2_ringTouch_88 (by decide) ?_
        refine g_istore hX dX2_ringTouch_89 (Nat.le_of_ble_eq_true rfl) rfl ?_
        refine g_iload hX dX2_ringTouch_91 rfl ?_
        refine g_if_eq (tgt := 100) hX dX2_ringTouch_93 (by decide) (fun _ => ?_) (fun c => absurd (by decide) c)
        refine g_iload hX dX2_ringTouch_100 rfl ?_
        refine g_ineg hX dX2_ringTouch_102 ?_
        refine g_istore hX dX2_ringTouch_103 (Nat.le_of_ble_eq_true rfl) rfl ?_
        refine g_iconst (v := (nI 0)) hX dX2_ringTouch_105 (by decide) ?_
        refine g_istore hX dX2_ringTouch_106 (Nat.le_of_ble_eq_true rfl) rfl ?_
        have hmo : moreI (ringI st sk ti fa ch ma rc b m L).1.1 (ringF (ringI st sk ti fa ch ma rc b m L)) L = (-(frI ((ringI st sk ti fa ch ma rc b m L).1.1) ((ringI st sk ti fa ch ma rc b m L).1.2.2.2.2.1) ((ringI st sk ti fa ch ma rc b m L).1.2.2.2.2.2))) := if_neg (fun q => c15 q.2)
        refine g_cg (L' := [some (.ref t), some (.int (nI b)), some (.ref c), some (.int (nI L)), some (.ref u), some (.int (frI ((ringI st sk ti fa ch ma rc b m L).1.1) ((ringI st sk ti fa ch ma rc b m L).1.2.2.2.2.1) ((ringI st sk ti fa ch ma rc b m L).1.2.2.2.2.2))), some (.int (nI 0)), some (.int (moreI (ringI st sk ti fa ch ma rc b m L).1.1 (ringF (ringI st sk ti fa ch ma rc b m L)) L)), some (.int (nI 0))]) (by rw [hmo]; rfl) rfl ?_
        refine g_cg (h' := (hs (putT (hs (hs (hs h (t + 4) (aI 20 (((ringI st sk ti fa ch ma rc b m L).2).1))) (t + 5) (aI 20 (((ringI st sk ti fa ch ma rc b m L).2).2.1))) (t + 6) (aI 20 (((ringI st sk ti fa ch ma rc b m L).2).2.2))) u ((ringI st sk ti fa ch ma rc b m L).1)) (t + 3) (aI 20 vt))) rfl (hs_id ((putT_ne (by omega)).trans ((hs_ne (by omega)).trans ((hs_ne (by omega)).trans ((hs_ne (by omega)).trans (fvt)))))).symm ?_
        refine g_cg (h' := (putT (hs (hs (hs (hs h (t + 3) (aI 20 vt)) (t + 4) (aI 20 (((ringI st sk ti fa ch ma rc b m L).2).1))) (t + 5) (aI 20 (((ringI st sk ti fa ch ma rc b m L).2).2.1))) (t + 6) (aI 20 (((ringI st sk ti fa ch ma rc b m L).2).2.2))) u ((ringI st sk ti fa ch ma rc b m L).1))) rfl (by rw [putT_lo (k := t + 3) (u := u) (by omega), hs_cm (k := t + 3) (j := t + 6) _ _ _ (by omega), hs_cm (k := t + 3) (j := t + 5) _ _ _ (by omega), hs_cm (k := t + 3) (j := t + 4) _ _ _ (by omega)]) ?_
        refine g_for (P := fun (i : Nat) (s : Nat → Int32) => GW X 108 [some (.ref t), some (.int (nI b)), some (.ref c), some (.int (nI L)), some (.ref u), some (.int (frI ((ringI st sk ti fa ch ma rc b m L).1.1) ((ringI st sk ti fa ch ma rc b m L).1.2.2.2.2.1) ((ringI st sk ti fa ch ma rc b m L).1.2.2.2.2.2))), some (.int (nI 0)), some (.int (moreI (ringI st sk ti fa ch ma rc b m L).1.1 (ringF (ringI st sk ti fa ch ma rc b m L)) L)), some (.int (nI i))] [] (putT (hs (hs (hs (hs h (t + 3) (aI 20 s)) (t + 4) (aI 20 (((ringI st sk ti fa ch ma rc b m L).2).1))) (t + 5) (aI 20 (((ringI st sk ti fa ch ma rc b m L).2).2.1))) (t + 6) (aI 20 (((ringI st sk ti fa ch ma rc b m L).2).2.2))) u ((ringI st sk ti fa ch ma rc b m L).1)) n 0 0) (step := fun i s => vtP st (ringI st sk ti fa ch ma rc b m L).2.2.2 b (moreI (ringI st sk ti fa ch ma rc b m L).1.1 (ringF (ringI st sk ti fa ch ma rc b m L)) L) i s) rc vt ?_ ?_
        · intro i16 s17 hi16 es17 ihi16
          have ihi16 : GW X 108 [some (.ref t), some (.int (nI b)), some (.ref c), some (.int (nI L)), some (.ref u), some (.int (frI ((ringI st sk ti fa ch ma rc b m L).1.1) ((ringI st sk ti fa ch ma rc b m L).1.2.2.2.2.1) ((ringI st sk ti fa ch ma rc b m L).1.2.2.2.2.2))), some (.int (nI 0)), some (.int (moreI (ringI st sk ti fa ch ma rc b m L).1.1 (ringF (ringI st sk ti fa ch ma rc b m L)) L)), some (.int (nI (i16 + 1)))] [] (putT (hs (hs (hs (hs h (t + 3) (aI 20 (vtP st (ringI st sk ti fa ch ma rc b m L).2.2.2 b (moreI (ringI st sk ti fa ch ma rc b m L).1.1 (ringF (ringI st sk ti fa ch ma rc b m L)) L) i16 s17))) (t + 4) (aI 20 (((ringI st sk ti fa ch ma rc b m L).2).1))) (t + 5) (aI 20 (((ringI st sk ti fa ch ma rc b m L).2).2.1))) (t + 6) (aI 20 (((ringI st sk ti fa ch ma rc b m L).2).2.2))) u ((ringI st sk ti fa ch ma rc b m L).1)) n 0 0 := ihi16
          refine g_iload hX dX2_ringTouch_108 rfl ?_
          refine g_aload_n hX dX2_ringTouch_110 rfl rfl ?_
          refine g_getf hX dX2_ringTouch_111 fl_X2_42 ((putT_ne (by omega)).trans ((hs_ne (by omega)).trans ((hs_ne (by omega)).trans ((hs_ne (by omega)).trans ((hs_ne (by omega)).trans (f0)))))) rfl ?_
          refine g_icmp_geN (tgt := 149) hX dX2_ringTouch_114 (by decide) (by omega) (fun c18 => absurd c18 (by omega)) (fun c18 => ?_)
          refine g_aload_n hX dX2_ringTouch_117 rfl rfl ?_
          refine g_iload hX dX2_ringTouch_118 rfl ?_
          refine g_callV (As := [.int (nI i16)]) hX dX2_ringTouch_120 cb_X2_bandOf ml_X2_62 im_X2_bandOf se_X2_bandOf rfl rfl ((putT_ne (by omega)).trans ((hs_ne (by omega)).trans ((hs_ne (by omega)).trans ((hs_ne (by omega)).trans ((hs_ne (by omega)).trans (f0)))))) ⟨_, rfl, rfl⟩ (kX2_bandOf hst ((putT_ne (by omega)).trans ((hs_ne (by omega)).trans ((hs_ne (by omega)).trans ((hs_ne (by omega)).trans ((hs_ne (by omega)).trans (f0)))))) ((putT_ne (by omega)).trans ((hs_ne (by omega)).trans ((hs_ne (by omega)).trans ((hs_ne (by omega)).trans ((hs_ne (by omega)).trans (fst)))))) (by omega)) (Nat.le_of_ble_eq_true rfl) (Nat.le_of_ble_eq_true rfl) (by omega) (by omega) (Nat.le_of_ble_eq_true rfl) GX.no (pq ?_)
          show GW X 123 [some (.ref t), some (.int (nI b)), some (.ref c), some (.int (nI L)), some (.ref u), some (.int (frI ((ringI st sk ti fa ch ma rc b m L).1.1) ((ringI st sk ti fa ch ma rc b m L).1.2.2.2.2.1) ((ringI st sk ti fa ch ma rc b m L).1.2.2.2.2.2))), some (.int (nI 0)), some (.int (moreI (ringI st sk ti fa ch ma rc b m L).1.1 (ringF (ringI st sk ti fa ch ma rc b m L)) L)), some (.int (nI i16))] [.int (bandI (st i16))] (putT (hs (hs (hs (hs h (t + 3) (aI 20 s17)) (t + 4) (aI 20 (((ringI st sk ti fa ch ma rc b m L).2).1))) (t + 5) (aI 20 (((ringI st sk ti fa ch ma rc b m L).2).2.1))) (t + 6) (aI 20 (((ringI st sk ti fa ch ma rc b m L).2).2.2))) u ((ringI st sk ti fa ch ma rc b m L).1)) n 0 0
          refine g_iload_n hX dX2_ringTouch_123 rfl rfl ?_
          refine g_icmp_ne (tgt := 143) hX dX2_ringTouch_124 (by decide) (fun c19 => ?_) (fun c19 => ?_)
          · refine g_iinc (v := (nI (i16 + 1))) hX dX2_ringTouch_143 rfl rfl (gn_inc _ _) ?_
            refine g_goto (tgt := 108) hX dX2_ringTouch_146 (by decide) ?_
            refine g_cv ihi16 rfl (by rw [vtP, if_neg c19])
          · refine g_aload_n hX dX2_ringTouch_127 rfl rfl ?_
            refine g_iload hX dX2_ringTouch_128 rfl ?_
            refine g_iload hX dX2_ringTouch_130 rfl ?_
            refine g_aload_n hX dX2_ringTouch_132 rfl rfl ?_
            refine g_getf hX dX2_ringTouch_133 fl_X2_27 ((putT_ne (by omega)).trans ((hs_ne (by omega)).trans ((hs_ne (by omega)).trans ((hs_ne (by omega)).trans ((hs_ne (by omega)).trans (f0)))))) rfl ?_
            refine g_iload hX dX2_ringTouch_136 rfl ?_
            refine g_iaload hX dX2_ringTouch_138 ((putT_ne (by omega)).trans (hs_eq _ _ _)) (i16) (by omega) rfl (by omega) ?_
            refine g_isub hX dX2_ringTouch_139 ?_
            refine g_callV (As := [.int (nI i16), .int ((moreI (ringI st sk ti fa ch ma rc b m L).1.1 (ringF (ringI st sk ti fa ch ma rc b m L)) L) - ((((ringI st sk ti fa ch ma rc b m L).2).2.2) i16))]) hX dX2_ringTouch_140 cb_X2_changeVotes ml_X2_113 im_X2_changeVotes se_X2_changeVotes rfl rfl ((putT_ne (by omega)).trans ((hs_ne (by omega)).trans ((hs_ne (by omega)).trans ((hs_ne (by omega)).trans ((hs_ne (by omega)).trans (f0)))))) ⟨_, rfl, rfl⟩ (kX2_changeVotes hst ((putT_ne (by omega)).trans ((hs_ne (by omega)).trans ((hs_ne (by omega)).trans ((hs_ne (by omega)).trans ((hs_ne (by omega)).trans (f0)))))) ((putT_ne (by omega)).trans ((hs_ne (by omega)).trans ((hs_ne (by omega)).trans ((hs_ne (by omega)).trans (hs_eq _ _ _))))) (by omega)) (Nat.le_of_ble_eq_true rfl) (Nat.le_of_ble_eq_true rfl) (by omega) (by omega) (Nat.le_of_ble_eq_true rfl) GX.no (pq ?_)
            show GW X 143 [some (.ref t), some (.int (nI b)), some (.ref c), some (.int (nI L)), some (.ref u), some (.int (frI ((ringI st sk ti fa ch ma rc b m L).1.1) ((ringI st sk ti fa ch ma rc b m L).1.2.2.2.2.1) ((ringI st sk ti fa ch ma rc b m L).1.2.2.2.2.2))), some (.int (nI 0)), some (.int (moreI (ringI st sk ti fa ch ma rc b m L).1.1 (ringF (ringI st sk ti fa ch ma rc b m L)) L)), some (.int (nI i16))] [] (hs (putT (hs (hs (hs (hs h (t + 3) (aI 20 s17)) (t + 4) (aI 20 (((ringI st sk ti fa ch ma rc b m L).2).1))) (t + 5) (aI 20 (((ringI st sk ti fa ch ma rc b m L).2).2.1))) (t + 6) (aI 20 (((ringI st sk ti fa ch ma rc b m L).2).2.2))) u ((ringI st sk ti fa ch ma rc b m L).1)) (t + 3) (aI 20 (upd s17 i16 (clampI (s17 i16 + ((moreI (ringI st sk ti fa ch ma rc b m L).1.1 (ringF (ringI st sk ti fa ch ma rc b m L)) L) - ((((ringI st sk ti fa ch ma rc b m L).2).2.2) i16))))))) n 0 0
            refine g_iinc (v := (nI (i16 + 1))) hX dX2_ringTouch_143 rfl rfl (gn_inc _ _) ?_
            refine g_goto (tgt := 108) hX dX2_ringTouch_146 (by decide) ?_
            refine g_cg (h' := (putT (hs (hs (hs (hs h (t + 3) (aI 20 (upd s17 i16 (clampI (s17 i16 + ((moreI (ringI st sk ti fa ch ma rc b m L).1.1 (ringF (ringI st sk ti fa ch ma rc b m L)) L) - ((((ringI st sk ti fa ch ma rc b m L).2).2.2) i16))))))) (t + 4) (aI 20 (((ringI st sk ti fa ch ma rc b m L).2).1))) (t + 5) (aI 20 (((ringI st sk ti fa ch ma rc b m L).2).2.1))) (t + 6) (aI 20 (((ringI st sk ti fa ch ma rc b m L).2).2.2))) u ((ringI st sk ti fa ch ma rc b m L).1))) rfl (by rw [putT_lo (k := t + 3) (u := u) (by omega), hs_cm (k := t + 3) (j := t + 6) _ _ _ (by omega), hs_cm (k := t + 3) (j := t + 5) _ _ _ (by omega), hs_cm (k := t + 3) (j := t + 4) _ _ _ (by omega), hs_hs (k := t + 3)]) ?_
            refine g_cv ihi16 rfl (by rw [vtP, if_pos c19])
        · refine g_iload hX dX2_ringTouch_108 rfl ?_
          refine g_aload_n hX dX2_ringTouch_110 rfl rfl ?_
          refine g_getf hX dX2_ringTouch_111 fl_X2_42 ((putT_ne (by omega)).trans ((hs_ne (by omega)).trans ((hs_ne (by omega)).trans ((hs_ne (by omega)).trans ((hs_ne (by omega)).trans (f0)))))) rfl ?_
          refine g_icmp_geN (tgt := 149) hX dX2_ringTouch_114 (by decide) (by omega) (fun c20 => ?_) (fun c20 => absurd c20 (by omega))
          refine g_iload hX dX2_ringTouch_149 rfl ?_
          refine g_ireturn hX hr dX2_ringTouch_151 (Nat.le_refl _) (Nat.le_refl _)  ?_
          exact ⟨rfl, rfl, rfl⟩
      · refine g_iconst (v := (nI 1)) hX dX2_ringTouch_84 (by decide) ?_
        refine g_goto (tgt := 89) hX dX2_ringTouch_85 (by decide) ?_
        refine g_istore hX dX2_ringTouch_89 (Nat.le_of_ble_eq_true rfl) rfl ?_
        refine g_iload hX dX2_ringTouch_91 rfl ?_
        refine g_if_eq (tgt := 100) hX dX2_ringTouch_93 (by decide) (fun c => absurd c (by decide)) (fun _ => ?_)
        refine g_iload_n hX dX2_ringTouch_96 rfl rfl ?_
        refine g_goto (tgt := 103) hX dX2_ringTouch_97 (by decide) ?_
        refine g_istore hX dX2_ringTouch_103 (Nat.le_of_ble_eq_true rfl) rfl ?_
        refine g_iconst (v := (nI 0)) hX dX2_ringTouch_105 (by decide) ?_
        refine g_istore hX dX2_ringTouch_106 (Nat.le_of_ble_eq_true rfl) rfl ?_
        have hmo : moreI (ringI st sk ti fa ch ma rc b m L).1.1 (ringF (ringI st sk ti fa ch ma rc b m L)) L = (nI L) := if_pos ⟨c9, c15⟩
        refine g_cg (L' := [some (.ref t), some (.int (nI b)), some (.ref c), some (.int (nI L)), some (.ref u), some (.int (frI ((ringI st sk ti fa ch ma rc b m L).1.1) ((ringI st sk ti fa ch ma rc b m L).1.2.2.2.2.1) ((ringI st sk ti fa ch ma rc b m L).1.2.2.2.2.2))), some (.int (nI 1)), some (.int (moreI (ringI st sk ti fa ch ma rc b m L).1.1 (ringF (ringI st sk ti fa ch ma rc b m L)) L)), some (.int (nI 0))]) (by rw [hmo]; rfl) rfl ?_
        refine g_cg (h' := (hs (putT (hs (hs (hs h (t + 4) (aI 20 (((ringI st sk ti fa ch ma rc b m L).2).1))) (t + 5) (aI 20 (((ringI st sk ti fa ch ma rc b m L).2).2.1))) (t + 6) (aI 20 (((ringI st sk ti fa ch ma rc b m L).2).2.2))) u ((ringI st sk ti fa ch ma rc b m L).1)) (t + 3) (aI 20 vt))) rfl (hs_id ((putT_ne (by omega)).trans ((hs_ne (by omega)).trans ((hs_ne (by omega)).trans ((hs_ne (by omega)).trans (fvt)))))).symm ?_
        refine g_cg (h' := (putT (hs (hs (hs (hs h (t + 3) (aI 20 vt)) (t + 4) (aI 20 (((ringI st sk ti fa ch ma rc b m L).2).1))) (t + 5) (aI 20 (((ringI st sk ti fa ch ma rc b m L).2).2.1))) (t + 6) (aI 20 (((ringI st sk ti fa ch ma rc b m L).2).2.2))) u ((ringI st sk ti fa ch ma rc b m L).1))) rfl (by rw [putT_lo (k := t + 3) (u := u) (by omega), hs_cm (k := t + 3) (j := t + 6) _ _ _ (by omega), hs_cm (k := t + 3) (j := t + 5) _ _ _ (by omega), hs_cm (k := t + 3) (j := t + 4) _ _ _ (by omega)]) ?_
        refine g_for (P := fun (i : Nat) (s : Nat → Int32) => GW X 108 [some (.ref t), some (.int (nI b)), some (.ref c), some (.int (nI L)), some (.ref u), some (.int (frI ((ringI st sk ti fa ch ma rc b m L).1.1) ((ringI st sk ti fa ch ma rc b m L).1.2.2.2.2.1) ((ringI st sk ti fa ch ma rc b m L).1.2.2.2.2.2))), some (.int (nI 1)), some (.int (moreI (ringI st sk ti fa ch ma rc b m L).1.1 (ringF (ringI st sk ti fa ch ma rc b m L)) L)), some (.int (nI i))] [] (putT (hs (hs (hs (hs h (t + 3) (aI 20 s)) (t + 4) (aI 20 (((ringI st sk ti fa ch ma rc b m L).2).1))) (t + 5) (aI 20 (((ringI st sk ti fa ch ma rc b m L).2).2.1))) (t + 6) (aI 20 (((ringI st sk ti fa ch ma rc b m L).2).2.2))) u ((ringI st sk ti fa ch ma rc b m L).1)) n 0 0) (step := fun i s => vtP st (ringI st sk ti fa ch ma rc b m L).2.2.2 b (moreI (ringI st sk ti fa ch ma rc b m L).1.1 (ringF (ringI st sk ti fa ch ma rc b m L)) L) i s) rc vt ?_ ?_
        · intro i21 s22 hi21 es22 ihi21
          have ihi21 : GW X 108 [some (.ref t), some (.int (nI b)), some (.ref c), some (.int (nI L)), some (.ref u), some (.int (frI ((ringI st sk ti fa ch ma rc b m L).1.1) ((ringI st sk ti fa ch ma rc b m L).1.2.2.2.2.1) ((ringI st sk ti fa ch ma rc b m L).1.2.2.2.2.2))), some (.int (nI 1)), some (.int (moreI (ringI st sk ti fa ch ma rc b m L).1.1 (ringF (ringI st sk ti fa ch ma rc b m L)) L)), some (.int (nI (i21 + 1)))] [] (putT (hs (hs (hs (hs h (t + 3) (aI 20 (vtP st (ringI st sk ti fa ch ma rc b m L).2.2.2 b (moreI (ringI st sk ti fa ch ma rc b m L).1.1 (ringF (ringI st sk ti fa ch ma rc b m L)) L) i21 s22))) (t + 4) (aI 20 (((ringI st sk ti fa ch ma rc b m L).2).1))) (t + 5) (aI 20 (((ringI st sk ti fa ch ma rc b m L).2).2.1))) (t + 6) (aI 20 (((ringI st sk ti fa ch ma rc b m L).2).2.2))) u ((ringI st sk ti fa ch ma rc b m L).1)) n 0 0 := ihi21
          refine g_iload hX dX2_ringTouch_108 rfl ?_
          refine g_aload_n hX dX2_ringTouch_110 rfl rfl ?_
          refine g_getf hX dX2_ringTouch_111 fl_X2_42 ((putT_ne (by omega)).trans ((hs_ne (by omega)).trans ((hs_ne (by omega)).trans ((hs_ne (by omega)).trans ((hs_ne (by omega)).trans (f0)))))) rfl ?_
          refine g_icmp_geN (tgt := 149) hX dX2_ringTouch_114 (by decide) (by omega) (fun c23 => absurd c23 (by omega)) (fun c23 => ?_)
          refine g_aload_n hX dX2_ringTouch_117 rfl rfl ?_
          refine g_iload hX dX2_ringTouch_118 rfl ?_
          refine g_callV (As := [.int (nI i21)]) hX dX2_ringTouch_120 cb_X2_bandOf ml_X2_62 im_X2_bandOf se_X2_bandOf rfl rfl ((putT_ne (by omega)).trans ((hs_ne (by omega)).trans ((hs_ne (by omega)).trans ((hs_ne (by omega)).trans ((hs_ne (by omega)).trans (f0)))))) ⟨_, rfl, rfl⟩ (kX2_bandOf hst ((putT_ne (by omega)).trans ((hs_ne (by omega)).trans ((hs_ne (by omega)).trans ((hs_ne (by omega)).trans ((hs_ne (by omega)).trans (f0)))))) ((putT_ne (by omega)).trans ((hs_ne (by omega)).trans ((hs_ne (by omega)).trans ((hs_ne (by omega)).trans ((hs_ne (by omega)).trans (fst)))))) (by omega)) (Nat.le_of_ble_eq_true rfl) (Nat.le_of_ble_eq_true rfl) (by omega) (by omega) (Nat.le_of_ble_eq_true rfl) GX.no (pq ?_)
          show GW X 123 [some (.ref t), some (.int (nI b)), some (.ref c), some (.int (nI L)), some (.ref u), some (.int (frI ((ringI st sk ti fa ch ma rc b m L).1.1) ((ringI st sk ti fa ch ma rc b m L).1.2.2.2.2.1) ((ringI st sk ti fa ch ma rc b m L).1.2.2.2.2.2))), some (.int (nI 1)), some (.int (moreI (ringI st sk ti fa ch ma rc b m L).1.1 (ringF (ringI st sk ti fa ch ma rc b m L)) L)), some (.int (nI i21))] [.int (bandI (st i21))] (putT (hs (hs (hs (hs h (t + 3) (aI 20 s22)) (t + 4) (aI 20 (((ringI st sk ti fa ch ma rc b m L).2).1))) (t + 5) (aI 20 (((ringI st sk ti fa ch ma rc b m L).2).2.1))) (t + 6) (aI 20 (((ringI st sk ti fa ch ma rc b m L).2).2.2))) u ((ringI st sk ti fa ch ma rc b m L).1)) n 0 0
          refine g_iload_n hX dX2_ringTouch_123 rfl rfl ?_
          refine g_icmp_ne (tgt := 143) hX dX2_ringTouch_124 (by decide) (fun c24 => ?_) (fun c24 => ?_)
          · refine g_iinc (v := (nI (i21 + 1))) hX dX2_ringTouch_143 rfl rfl (gn_inc _ _) ?_
            refine g_goto (tgt := 108) hX dX2_ringTouch_146 (by decide) ?_
            refine g_cv ihi21 rfl (by rw [vtP, if_neg c24])
          · refine g_aload_n hX dX2_ringTouch_127 rfl rfl ?_
            refine g_iload hX dX2_ringTouch_128 rfl ?_
            refine g_iload hX dX2_ringTouch_130 rfl ?_
            refine g_aload_n hX dX2_ringTouch_132 rfl rfl ?_
            refine g_getf hX dX2_ringTouch_133 fl_X2_27 ((putT_ne (by omega)).trans ((hs_ne (by omega)).trans ((hs_ne (by omega)).trans ((hs_ne (by omega)).trans ((hs_ne (by omega)).trans (f0)))))) rfl ?_
            refine g_iload hX dX2_ringTouch_136 rfl ?_
            refine g_iaload hX dX2_ringTouch_138 ((putT_ne (by omega)).trans (hs_eq _ _ _)) (i21) (by omega) rfl (by omega) ?_
            refine g_isub hX dX2_ringTouch_139 ?_
            refine g_callV (As := [.int (nI i21), .int ((moreI (ringI st sk ti fa ch ma rc b m L).1.1 (ringF (ringI st sk ti fa ch ma rc b m L)) L) - ((((ringI st sk ti fa ch ma rc b m L).2).2.2) i21))]) hX dX2_ringTouch_140 cb_X2_changeVotes ml_X2_113 im_X2_changeVotes se_X2_changeVotes rfl rfl ((putT_ne (by omega)).trans ((hs_ne (by omega)).trans ((hs_ne (by omega)).trans ((hs_ne (by omega)).trans ((hs_ne (by omega)).trans (f0)))))) ⟨_, rfl, rfl⟩ (kX2_changeVotes hst ((putT_ne (by omega)).trans ((hs_ne (by omega)).trans ((hs_ne (by omega)).trans ((hs_ne (by omega)).trans ((hs_ne (by omega)).trans (f0)))))) ((putT_ne (by omega)).trans ((hs_ne (by omega)).trans ((hs_ne (by omega)).trans ((hs_ne (by omega)).trans (hs_eq _ _ _))))) (by omega)) (Nat.le_of_ble_eq_true rfl) (Nat.le_of_ble_eq_true rfl) (by omega) (by omega) (Nat.le_of_ble_eq_true rfl) GX.no (pq ?_)
            show GW X 143 [some (.ref t), some (.int (nI b)), some (.ref c), some (.int (nI L)), some (.ref u), some (.int (frI ((ringI st sk ti fa ch ma rc b m L).1.1) ((ringI st sk ti fa ch ma rc b m L).1.2.2.2.2.1) ((ringI st sk ti fa ch ma rc b m L).1.2.2.2.2.2))), some (.int (nI 1)), some (.int (moreI (ringI st sk ti fa ch ma rc b m L).1.1 (ringF (ringI st sk ti fa ch ma rc b m L)) L)), some (.int (nI i21))] [] (hs (putT (hs (hs (hs (hs h (t + 3) (aI 20 s22)) (t + 4) (aI 20 (((ringI st sk ti fa ch ma rc b m L).2).1))) (t + 5) (aI 20 (((ringI st sk ti fa ch ma rc b m L).2).2.1))) (t + 6) (aI 20 (((ringI st sk ti fa ch ma rc b m L).2).2.2))) u ((ringI st sk ti fa ch ma rc b m L).1)) (t + 3) (aI 20 (upd s22 i21 (clampI (s22 i21 + ((moreI (ringI st sk ti fa ch ma rc b m L).1.1 (ringF (ringI st sk ti fa ch ma rc b m L)) L) - ((((ringI st sk ti fa ch ma rc b m L).2).2.2) i21))))))) n 0 0
            refine g_iinc (v := (nI (i21 + 1))) hX dX2_ringTouch_143 rfl rfl (gn_inc _ _) ?_
            refine g_goto (tgt := 108) hX dX2_ringTouch_146 (by decide) ?_
            refine g_cg (h' := (putT (hs (hs (hs (hs h (t + 3) (aI 20 (upd s22 i21 (clampI (s22 i21 + ((moreI (ringI st sk ti fa ch ma rc b m L).1.1 (ringF (ringI st sk ti fa ch ma rc b m L)) L) - ((((ringI st sk ti fa ch ma rc b m L).2).2.2) i21))))))) (t + 4) (aI 20 (((ringI st sk ti fa ch ma rc b m L).2).1))) (t + 5) (aI 20 (((ringI st sk ti fa ch ma rc b m L).2).2.1))) (t + 6) (aI 20 (((ringI st sk ti fa ch ma rc b m L).2).2.2))) u ((ringI st sk ti fa ch ma rc b m L).1))) rfl (by rw [putT_lo (k := t + 3) (u := u) (by omega), hs_cm (k := t + 3) (j := t + 6) _ _ _ (by omega), hs_cm (k := t + 3) (j := t + 5) _ _ _ (by omega), hs_cm (k := t + 3) (j := t + 4) _ _ _ (by omega), hs_hs (k := t + 3)]) ?_
            refine g_cv ihi21 rfl (by rw [vtP, if_pos c24])
        · refine g_iload hX dX2_ringTouch_108 rfl ?_
          refine g_aload_n hX dX2_ringTouch_110 rfl rfl ?_
          refine g_getf hX dX2_ringTouch_111 fl_X2_42 ((putT_ne (by omega)).trans ((hs_ne (by omega)).trans ((hs_ne (by omega)).trans ((hs_ne (by omega)).trans ((hs_ne (by omega)).trans (f0)))))) rfl ?_
          refine g_icmp_geN (tgt := 149) hX dX2_ringTouch_114 (by decide) (by omega) (fun c25 => ?_) (fun c25 => absurd c25 (by omega))
          refine g_iload hX dX2_ringTouch_149 rfl ?_
          refine g_ireturn hX hr dX2_ringTouch_151 (Nat.le_refl _) (Nat.le_refl _)  ?_
          exact ⟨rfl, rfl, rfl⟩
set_option maxRecDepth 20000 in
theorem kX2_passDay {l : Launch} {K : gw_K} (hst : l.stackTraces = false) {t rc n : Nat} {h : gw_H} {wd vt ws : Nat → Int32} {z : (Nat → Int32) × (Nat → Int32) × Int32} (f0 : h t = (oB 2 [.ref (t + 1), .ref (t + 2), .ref (t + 3), .ref (t + 4), .ref (t + 5), .ref (t + 6), .ref (t + 7), .ref (t + 8), .int (nI rc), .int z.2.2])) (fwd : h (t + 1) = (aI 20 wd)) (fvt : h (t + 3) = (aI 20 vt)) (fti : h (t + 4) = (aI 20 z.1)) (fst : h (t + 7) = (aI 20 z.2.1)) (fws : h (t + 8) = (aI 18 ws)) (hrc : rc ≤ 20) : Ctr l K mX2_passDay [.ref t] h n 0 0 (PQ (none) (hs (hs (hs h t (oB 2 [.ref (t + 1), .ref (t + 2), .ref (t + 3), .ref (t + 4), .ref (t + 5), .ref (t + 6), .ref (t + 7), .ref (t + 8), .int (nI rc), .int ((dayI wd vt ws rc z).2.2)])) (t + 4) (aI 20 ((dayI wd vt ws rc z).1))) (t + 7) (aI 20 ((dayI wd vt ws rc z).2.1))) n) (PX0) := by
  refine Ctr.of hst pn_X2_passDay (Nat.le_of_ble_eq_true rfl) (fun X hX hr hE => ?_)
  have hX : FX l K X cX2_passDay RX2 3 68 0 0 := hX
  show GW X 0 [some (.ref t), none, none] [] h n 0 0
  refine g_iconst (v := (nI 0)) hX dX2_passDay_0 (by decide) ?_
  refine g_istore_n (i := 1) hX dX2_passDay_1 rfl (Nat.le_of_ble_eq_true rfl) rfl ?_
  refine g_cg (L' := [some (.ref t), some (.int (nI 0)), none]) (h' := (hs h (t + 4) (aI 20 z.1))) (by rfl) (hs_id fti).symm ?_
  refine g_for (P := fun (i : Nat) (s : Nat → Int32) => GW X 2 [some (.ref t), some (.int (nI i)), none] [] (hs h (t + 4) (aI 20 s)) n 0 0) (step := fun i s => upd s i (if nI 0 < s i - (if z.2.1 i = -1 then nI 5 else nI 3) then s i - (if z.2.1 i = -1 then nI 5 else nI 3) else nI 0)) rc z.1 ?_ ?_
  · intro i1 s2 hi1 es2 ihi1
    have ihi1 : GW X 2 [some (.ref t), some (.int (nI (i1 + 1))), none] [] (hs h (t + 4) (aI 20 (upd s2 i1 (if nI 0 < s2 i1 - (if z.2.1 i1 = -1 then nI 5 else nI 3) then s2 i1 - (if z.2.1 i1 = -1 then nI 5 else nI 3) else nI 0)))) n 0 0 := ihi1
    refine g_iload_n hX dX2_passDay_2 rfl rfl ?_
    refine g_aload_n hX dX2_passDay_3 rfl rfl ?_
    refine g_getf hX dX2_passDay_4 fl_X2_42 ((hs_ne (by omega)).trans (f0)) rfl ?_
    refine g_icmp_geN (tgt := 48) hX dX2_passDay_7 (by decide) (by omega) (fun c3 => absurd c3 (by omega)) (fun c3 => ?_)
    refine g_aload_n hX dX2_passDay_10 rfl rfl ?_
    refine g_iload_n hX dX2_passDay_11 rfl rfl ?_
    refine g_callV (As := [.int (nI i1)]) hX dX2_passDay_12 cb_X2_ringsBell ml_X2_58 im_X2_ringsBell se_X2_ringsBell rfl rfl ((hs_ne (by omega)).trans (f0)) ⟨_, rfl, rfl⟩ (kX2_ringsBell hst ((hs_ne (by omega)).trans (f0)) ((hs_ne (by omega)).trans (fst)) (by omega)) (Nat.le_of_ble_eq_true rfl) (Nat.le_of_ble_eq_true rfl) (by omega) (by omega) (Nat.le_of_ble_eq_true rfl) GX.no (pq ?_)
    show GW X 15 [some (.ref t), some (.int (nI i1)), none] [.int (if ¬ z.2.1 i1 = -1 then nI 1 else nI 0)] (hs h (t + 4) (aI 20 s2)) n 0 0
    refine g_ifB_eq (tgt := 22) hX dX2_passDay_15 (by decide) (fun c4 => ?_) (fun c4 => ?_)
    · refine g_iconst (v := (nI 5)) hX dX2_passDay_22 (by decide) ?_
      refine g_istore_n (i := 2) hX dX2_passDay_23 rfl (Nat.le_of_ble_eq_true rfl) rfl ?_
      refine g_aload_n hX dX2_passDay_24 rfl rfl ?_
      refine g_getf hX dX2_passDay_25 fl_X2_21 ((hs_ne (by omega)).trans (f0)) rfl ?_
      refine g_iload_n hX dX2_passDay_28 rfl rfl ?_
      refine g_iconst (v := (nI 0)) hX dX2_passDay_29 (by decide) ?_
      refine g_aload_n hX dX2_passDay_30 rfl rfl ?_
      refine g_getf hX dX2_passDay_31 fl_X2_21 ((hs_ne (by omega)).trans (f0)) rfl ?_
      refine g_iload_n hX dX2_passDay_34 rfl rfl ?_
      refine g_iaload hX dX2_passDay_35 (hs_eq _ _ _) (i1) (by omega) rfl (by omega) ?_
      refine g_iload_n hX dX2_passDay_36 rfl rfl ?_
      refine g_isub hX dX2_passDay_37 ?_
      refine g_mmax hX dX2_passDay_38 ml_X2_55 w_mmaxS w_mI w_mmaxC (Nat.le_of_ble_eq_true rfl) (Nat.le_of_ble_eq_true rfl) (by omega) (by omega) ?_
      refine g_iastore hX dX2_passDay_41 (hs_eq _ _ _) (i1) (by omega) rfl (by omega) ?_
      refine g_cg rfl hs_hs ?_
      refine g_iinc (v := (nI (i1 + 1))) hX dX2_passDay_42 rfl rfl (gn_inc _ _) ?_
      refine g_goto (tgt := 2) hX dX2_passDay_45 (by decide) ?_
      refine g_kill 2 ?_
      refine g_cv ihi1 rfl (by simp [c3, c4, Classical.not_not.mp c4])
    · refine g_iconst (v := (nI 3)) hX dX2_passDay_18 (by decide) ?_
      refine g_goto (tgt := 23) hX dX2_passDay_19 (by decide) ?_
      refine g_istore_n (i := 2) hX dX2_passDay_23 rfl (Nat.le_of_ble_eq_true rfl) rfl ?_
      refine g_aload_n hX dX2_passDay_24 rfl rfl ?_
      refine g_getf hX dX2_passDay_25 fl_X2_21 ((hs_ne (by omega)).trans (f0)) rfl ?_
      refine g_iload_n hX dX2_passDay_28 rfl rfl ?_
      refine g_iconst (v := (nI 0)) hX dX2_passDay_29 (by decide) ?_
      refine g_aload_n hX dX2_passDay_30 rfl rfl ?_
      refine g_getf hX dX2_passDay_31 fl_X2_21 ((hs_ne (by omega)).trans (f0)) rfl ?_
      refine g_iload_n hX dX2_passDay_34 rfl rfl ?_
      refine g_iaload hX dX2_passDay_35 (hs_eq _ _ _) (i1) (by omega) rfl (by omega) ?_
      refine g_iload_n hX dX2_passDay_36 rfl rfl ?_
      refine g_isub hX dX2_passDay_37 ?_
      refine g_mmax hX dX2_passDay_38 ml_X2_55 w_mmaxS w_mI w_mmaxC (Nat.le_of_ble_eq_true rfl) (Nat.le_of_ble_eq_true rfl) (by omega) (by omega) ?_
      refine g_iastore hX dX2_passDay_41 (hs_eq _ _ _) (i1) (by omega) rfl (by omega) ?_
      refine g_cg rfl hs_hs ?_
      refine g_iinc (v := (nI (i1 + 1))) hX dX2_passDay_42 rfl rfl (gn_inc _ _) ?_
      refine g_goto (tgt := 2) hX dX2_passDay_45 (by decide) ?_
      refine g_kill 2 ?_
      refine g_cv ihi1 rfl (by simp [c3, c4])
  · refine g_iload_n hX dX2_passDay_2 rfl rfl ?_
    refine g_aload_n hX dX2_passDay_3 rfl rfl ?_
    refine g_getf hX dX2_passDay_4 fl_X2_42 ((hs_ne (by omega)).trans (f0)) rfl ?_
    refine g_icmp_geN (tgt := 48) hX dX2_passDay_7 (by decide) (by omega) (fun c5 => ?_) (fun c5 => absurd c5 (by omega))
    refine g_aload_n hX dX2_passDay_48 rfl rfl ?_
    refine g_getf hX dX2_passDay_49 fl_X2_46 ((hs_ne (by omega)).trans (f0)) rfl ?_
    refine g_bipush (v := (nI 7)) hX dX2_passDay_52 (by decide) ?_
    refine g_irem hX dX2_passDay_54 (by decide) ?_
    refine g_bipush (v := (nI 6)) hX dX2_passDay_55 (by decide) ?_
    refine g_icmp_ne (tgt := 78) hX dX2_passDay_57 (by decide) (fun c6 => ?_) (fun c6 => ?_)
    · refine g_cg (h' := (hs (hs h (t + 4) (aI 20 (itr (fun i s => upd s i (if nI 0 < s i - (if z.2.1 i = -1 then nI 5 else nI 3) then s i - (if z.2.1 i = -1 then nI 5 else nI 3) else nI 0)) rc z.1))) (t + 7) (aI 20 z.2.1))) rfl (hs_id ((hs_ne (by omega)).trans (fst))).symm ?_
      refine g_aload_n hX dX2_passDay_78 rfl rfl ?_
      refine g_dup hX dX2_passDay_79 rfl ?_
      refine g_getf hX dX2_passDay_80 fl_X2_46 ((hs_ne (by omega)).trans ((hs_ne (by omega)).trans (f0))) rfl ?_
      refine g_iconst (v := (nI 1)) hX dX2_passDay_83 (by decide) ?_
      refine g_iadd hX dX2_passDay_84 ?_
      refine g_putI hX dX2_passDay_85 fl_X2_46 ((hs_ne (by omega)).trans ((hs_ne (by omega)).trans (f0))) (Nat.le_of_ble_eq_true rfl) ?_
      show GW X 88 [some (.ref t), some (.int (nI rc)), none] [] (hs (hs (hs h (t + 4) (aI 20 (itr (fun i s => upd s i (if nI 0 < s i - (if z.2.1 i = -1 then nI 5 else nI 3) then s i - (if z.2.1 i = -1 then nI 5 else nI 3) else nI 0)) rc z.1))) (t + 7) (aI 20 z.2.1)) t (oB 2 [.ref (t + 1), .ref (t + 2), .ref (t + 3), .ref (t + 4), .ref (t + 5), .ref (t + 6), .ref (t + 7), .ref (t + 8), .int (nI rc), .int (z.2.2 + (nI 1))])) n 0 0
      refine g_return hX hr dX2_passDay_88 (Nat.le_refl _) (Nat.le_refl _)  ?_
      have eD : dayI wd vt ws rc z = (restI z.2.1 z.1 rc, z.2.1, z.2.2 + nI 1) := by
        unfold dayI
        rw [if_neg c6]
        rfl
      exact ⟨rfl, Eq.trans (by first | (rw [hs_cm (k := t) (j := t + 7) _ _ _ (by omega), hs_cm (k := t) (j := t + 4) _ _ _ (by omega)]; done) | (rw [hs_cm (k := t) (j := t + 7) _ _ _ (by omega), hs_cm (k := t) (j := t + 4) _ _ _ (by omega)]; rfl)) (by rw [eD]; rfl), rfl⟩
    · refine g_iconst (v := (nI 0)) hX dX2_passDay_60 (by decide) ?_
      refine g_istore_n (i := 1) hX dX2_passDay_61 rfl (Nat.le_of_ble_eq_true rfl) rfl ?_
      refine g_cg (h' := (hs (hs h (t + 4) (aI 20 (itr (fun i s => upd s i (if nI 0 < s i - (if z.2.1 i = -1 then nI 5 else nI 3) then s i - (if z.2.1 i = -1 then nI 5 else nI 3) else nI 0)) rc z.1))) (t + 7) (aI 20 z.2.1))) rfl (hs_id ((hs_ne (by omega)).trans (fst))).symm ?_
      refine g_for (P := fun (i : Nat) (s : Nat → Int32) => GW X 62 [some (.ref t), some (.int (nI i)), none] [] (hs (hs h (t + 4) (aI 20 (itr (fun i s => upd s i (if nI 0 < s i - (if z.2.1 i = -1 then nI 5 else nI 3) then s i - (if z.2.1 i = -1 then nI 5 else nI 3) else nI 0)) rc z.1))) (t + 7) (aI 20 s)) n 0 0) (step := fun i s => elB wd vt ws rc s i) 3 z.2.1 ?_ ?_
      · intro i7 s8 hi7 es8 ihi7
        have ihi7 : GW X 62 [some (.ref t), some (.int (nI (i7 + 1))), none] [] (hs (hs h (t + 4) (aI 20 (itr (fun i s => upd s i (if nI 0 < s i - (if z.2.1 i = -1 then nI 5 else nI 3) then s i - (if z.2.1 i = -1 then nI 5 else nI 3) else nI 0)) rc z.1))) (t + 7) (aI 20 (elB wd vt ws rc s8 i7))) n 0 0 := ihi7
        refine g_iload_n hX dX2_passDay_62 rfl rfl ?_
        refine g_iconst (v := (nI 3)) hX dX2_passDay_63 (by decide) ?_
        refine g_icmp_geN (tgt := 78) hX dX2_passDay_64 (by decide) (by omega) (fun c9 => absurd c9 (by omega)) (fun c9 => ?_)
        refine g_aload_n hX dX2_passDay_67 rfl rfl ?_
        refine g_iload_n hX dX2_passDay_68 rfl rfl ?_
        refine g_callV (As := [.int (nI i7)]) hX dX2_passDay_69 cb_X2_electBand ml_X2_126 im_X2_electBand se_X2_electBand rfl rfl ((hs_ne (by omega)).trans ((hs_ne (by omega)).trans (f0))) ⟨_, rfl, rfl⟩ (kX2_electBand hst ((hs_ne (by omega)).trans ((hs_ne (by omega)).trans (f0))) ((hs_ne (by omega)).trans ((hs_ne (by omega)).trans (fwd))) ((hs_ne (by omega)).trans ((hs_ne (by omega)).trans (fvt))) (hs_eq _ _ _) ((hs_ne (by omega)).trans ((hs_ne (by omega)).trans (fws))) (by omega) (by omega)) (Nat.le_of_ble_eq_true rfl) (Nat.le_of_ble_eq_true rfl) (by omega) (by omega) (Nat.le_of_ble_eq_true rfl) GX.no (pq ?_)
        show GW X 72 [some (.ref t), some (.int (nI i7)), none] [] (hs (hs (hs h (t + 4) (aI 20 (itr (fun i s => upd s i (if nI 0 < s i - (if z.2.1 i = -1 then nI 5 else nI 3) then s i - (if z.2.1 i = -1 then nI 5 else nI 3) else nI 0)) rc z.1))) (t + 7) (aI 20 s8)) (t + 7) (aI 20 (elB wd vt ws rc s8 i7))) n 0 0
        refine g_cg rfl hs_hs ?_
        refine g_iinc (v := (nI (i7 + 1))) hX dX2_passDay_72 rfl rfl (gn_inc _ _) ?_
        refine g_goto (tgt := 62) hX dX2_passDay_75 (by decide) ?_
        refine g_cv ihi7 rfl rfl
      · refine g_iload_n hX dX2_passDay_62 rfl rfl ?_
        refine g_iconst (v := (nI 3)) hX dX2_passDay_63 (by decide) ?_
        refine g_icmp_ge (tgt := 78) hX dX2_passDay_64 (by decide) (fun _ => ?_) (fun c => absurd (by decide) c)
        refine g_aload_n hX dX2_passDay_78 rfl rfl ?_
        refine g_dup hX dX2_passDay_79 rfl ?_
        refine g_getf hX dX2_passDay_80 fl_X2_46 ((hs_ne (by omega)).trans ((hs_ne (by omega)).trans (f0))) rfl ?_
        refine g_iconst (v := (nI 1)) hX dX2_passDay_83 (by decide) ?_
        refine g_iadd hX dX2_passDay_84 ?_
        refine g_putI hX dX2_passDay_85 fl_X2_46 ((hs_ne (by omega)).trans ((hs_ne (by omega)).trans (f0))) (Nat.le_of_ble_eq_true rfl) ?_
        show GW X 88 [some (.ref t), some (.int (nI 3)), none] [] (hs (hs (hs h (t + 4) (aI 20 (itr (fun i s => upd s i (if nI 0 < s i - (if z.2.1 i = -1 then nI 5 else nI 3) then s i - (if z.2.1 i = -1 then nI 5 else nI 3) else nI 0)) rc z.1))) (t + 7) (aI 20 (itr (fun i s => elB wd vt ws rc s i) 3 z.2.1))) t (oB 2 [.ref (t + 1), .ref (t + 2), .ref (t + 3), .ref (t + 4), .ref (t + 5), .ref (t + 6), .ref (t + 7), .ref (t + 8), .int (nI rc), .int (z.2.2 + (nI 1))])) n 0 0
        refine g_return hX hr dX2_passDay_88 (Nat.le_refl _) (Nat.le_refl _)  ?_
        have eD : dayI wd vt ws rc z = (restI z.2.1 z.1 rc, (itr (fun i s => elB wd vt ws rc s i) 3 z.2.1), z.2.2 + nI 1) := by
          unfold dayI
          rw [if_pos c6]
          rfl
        exact ⟨rfl, Eq.trans (by first | (rw [hs_cm (k := t) (j := t + 7) _ _ _ (by omega), hs_cm (k := t) (j := t + 4) _ _ _ (by omega)]; done) | (rw [hs_cm (k := t) (j := t + 7) _ _ _ (by omega), hs_cm (k := t) (j := t + 4) _ _ _ (by omega)]; rfl)) (by rw [eD]; rfl), rfl⟩
set_option maxRecDepth 20000 in
theorem kX2_passDays {l : Launch} {K : gw_K} (hst : l.stackTraces = false) {t rc n : Nat} {h : gw_H} {wd vt ws : Nat → Int32} {z : (Nat → Int32) × (Nat → Int32) × Int32} {d : Nat} (f0 : h t = (oB 2 [.ref (t + 1), .ref (t + 2), .ref (t + 3), .ref (t + 4), .ref (t + 5), .ref (t + 6), .ref (t + 7), .ref (t + 8), .int (nI rc), .int z.2.2])) (fwd : h (t + 1) = (aI 20 wd)) (fvt : h (t + 3) = (aI 20 vt)) (fti : h (t + 4) = (aI 20 z.1)) (fst : h (t + 7) = (aI 20 z.2.1)) (fws : h (t + 8) = (aI 18 ws)) (hrc : rc ≤ 20) (hd : d ≤ 60) : Ctr l K mX2_passDays [.ref t, .int (nI d)] h n 0 0 (PQ (none) (hs (hs (hs h t (oB 2 [.ref (t + 1), .ref (t + 2), .ref (t + 3), .ref (t + 4), .ref (t + 5), .ref (t + 6), .ref (t + 7), .ref (t + 8), .int (nI rc), .int ((daysI wd vt ws rc d z).2.2)])) (t + 4) (aI 20 ((daysI wd vt ws rc d z).1))) (t + 7) (aI 20 ((daysI wd vt ws rc d z).2.1))) n) (PX0) := by
  refine Ctr.of hst pn_X2_passDays (Nat.le_of_ble_eq_true rfl) (fun X hX hr hE => ?_)
  have hX : FX l K X cX2_passDays RX2 4 90 0 0 := hX
  show GW X 0 [some (.ref t), some (.int (nI d)), none] [] h n 0 0
  refine g_iconst (v := (nI 0)) hX dX2_passDays_0 (by decide) ?_
  refine g_istore_n (i := 2) hX dX2_passDays_1 rfl (Nat.le_of_ble_eq_true rfl) rfl ?_
  refine g_cg (L' := [some (.ref t), some (.int (nI d)), some (.int (nI 0))]) (h' := (hs (hs (hs h t (oB 2 [.ref (t + 1), .ref (t + 2), .ref (t + 3), .ref (t + 4), .ref (t + 5), .ref (t + 6), .ref (t + 7), .ref (t + 8), .int (nI rc), .int z.2.2])) (t + 4) (aI 20 z.1)) (t + 7) (aI 20 z.2.1))) (by rfl) (by rw [hs_id f0, hs_id fti, hs_id fst]) ?_
  refine g_for (P := fun (i : Nat) (s : (Nat → Int32) × (Nat → Int32) × Int32) => GW X 2 [some (.ref t), some (.int (nI d)), some (.int (nI i))] [] (hs (hs (hs h t (oB 2 [.ref (t + 1), .ref (t + 2), .ref (t + 3), .ref (t + 4), .ref (t + 5), .ref (t + 6), .ref (t + 7), .ref (t + 8), .int (nI rc), .int s.2.2])) (t + 4) (aI 20 s.1)) (t + 7) (aI 20 s.2.1)) n 0 0) (step := fun i s => dayI wd vt ws rc s) d z ?_ ?_
  · intro i1 s2 hi1 es2 ihi1
    have ihi1 : GW X 2 [some (.ref t), some (.int (nI d)), some (.int (nI (i1 + 1)))] [] (hs (hs (hs h t (oB 2 [.ref (t + 1), .ref (t + 2), .ref (t + 3), .ref (t + 4), .ref (t + 5), .ref (t + 6), .ref (t + 7), .ref (t + 8), .int (nI rc), .int ((dayI wd vt ws rc s2).2.2)])) (t + 4) (aI 20 ((dayI wd vt ws rc s2).1))) (t + 7) (aI 20 ((dayI wd vt ws rc s2).2.1))) n 0 0 := ihi1
    refine g_iload_n hX dX2_passDays_2 rfl rfl ?_
    refine g_iload_n hX dX2_passDays_3 rfl rfl ?_
    refine g_icmp_geN (tgt := 17) hX dX2_passDays_4 (by decide) (by omega) (fun c3 => absurd c3 (by omega)) (fun c3 => ?_)
    refine g_aload_n hX dX2_passDays_7 rfl rfl ?_
    refine g_callV (As := []) hX dX2_passDays_8 cb_X2_passDay ml_X2_123 im_X2_passDay se_X2_passDay rfl rfl ((hs_ne (by omega)).trans ((hs_ne (by omega)).trans (hs_eq _ _ _))) ⟨_, rfl, rfl⟩ (kX2_passDay (z := s2) hst ((hs_ne (by omega)).trans ((hs_ne (by omega)).trans (hs_eq _ _ _))) ((hs_ne (by omega)).trans ((hs_ne (by omega)).trans ((hs_ne (by omega)).trans (fwd)))) ((hs_ne (by omega)).trans ((hs_ne (by omega)).trans ((hs_ne (by omega)).trans (fvt)))) ((hs_ne (by omega)).trans (hs_eq _ _ _)) (hs_eq _ _ _) ((hs_ne (by omega)).trans ((hs_ne (by omega)).trans ((hs_ne (by omega)).trans (fws)))) (by omega)) (Nat.le_of_ble_eq_true rfl) (Nat.le_of_ble_eq_true rfl) (by omega) (by omega) (Nat.le_of_ble_eq_true rfl) GX.no (pq ?_)
    show GW X 11 [some (.ref t), some (.int (nI d)), some (.int (nI i1))] [] (hs (hs (hs (hs (hs (hs h t (oB 2 [.ref (t + 1), .ref (t + 2), .ref (t + 3), .ref (t + 4), .ref (t + 5), .ref (t + 6), .ref (t + 7), .ref (t + 8), .int (nI rc), .int s2.2.2])) (t + 4) (aI 20 s2.1)) (t + 7) (aI 20 s2.2.1)) t (oB 2 [.ref (t + 1), .ref (t + 2), .ref (t + 3), .ref (t + 4), .ref (t + 5), .ref (t + 6), .ref (t + 7), .ref (t + 8), .int (nI rc), .int ((dayI wd vt ws rc s2).2.2)])) (t + 4) (aI 20 ((dayI wd vt ws rc s2).1))) (t + 7) (aI 20 ((dayI wd vt ws rc s2).2.1))) n 0 0
    refine g_cg (h' := (hs (hs (hs h t (oB 2 [.ref (t + 1), .ref (t + 2), .ref (t + 3), .ref (t + 4), .ref (t + 5), .ref (t + 6), .ref (t + 7), .ref (t + 8), .int (nI rc), .int ((dayI wd vt ws rc s2).2.2)])) (t + 4) (aI 20 ((dayI wd vt ws rc s2).1))) (t + 7) (aI 20 ((dayI wd vt ws rc s2).2.1)))) rfl (by rw [hs_cm (k := t) (j := t + 7) _ _ _ (by omega), hs_cm (k := t) (j := t + 4) _ _ _ (by omega), hs_hs (k := t), hs_cm (k := t + 4) (j := t + 7) _ _ _ (by omega), hs_hs (k := t + 4), hs_hs (k := t + 7)]) ?_
    refine g_iinc (v := (nI (i1 + 1))) hX dX2_passDays_11 rfl rfl (gn_inc _ _) ?_
    refine g_goto (tgt := 2) hX dX2_passDays_14 (by decide) ?_
    refine g_cv ihi1 rfl rfl
  · refine g_iload_n hX dX2_passDays_2 rfl rfl ?_
    refine g_iload_n hX dX2_passDays_3 rfl rfl ?_
    refine g_icmp_geN (tgt := 17) hX dX2_passDays_4 (by decide) (by omega) (fun c4 => ?_) (fun c4 => absurd c4 (by omega))
    refine g_return hX hr dX2_passDays_17 (Nat.le_refl _) (Nat.le_refl _)  ?_
    exact ⟨rfl, rfl, rfl⟩
