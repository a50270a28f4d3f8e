set_option maxRecDepth 20000 in
theorem kX0_changeAt {l : Launch} {K : gw_K} (hst : l.stackTraces = false) {c m n : Nat} {h : gw_H} {ld rw_ fr ho : Int32} {ch : Nat → Int32} {i : Nat} (g0 : h c = (oB 0 [.ref (c + 1), .ref (c + 2), .int (nI m), .int ld, .int rw_, .int fr, .int ho])) (g1 : h (c + 1) = (aI 12 ch)) (hm12 : m ≤ 12) (him : i < m) : Ctr l K mX0_changeAt [.ref c, .int (nI i)] h n 0 0 (PQ (some (.int (ch i))) h n) (PX0) := by
  refine Ctr.of hst pn_X0_changeAt (Nat.le_of_ble_eq_true rfl) (fun X hX hr hE => ?_)
  have hX : FX l K X cX0_changeAt RX0 0 0 0 0 := hX
  show GW X 0 [some (.ref c), some (.int (nI i))] [] h n 0 0
  refine g_iload_n hX dX0_changeAt_0 rfl rfl ?_
  refine g_if_ltN (tgt := 21) hX dX0_changeAt_1 (by decide) (by omega) (fun c1 => absurd c1 (by omega)) (fun c1 => ?_)
  refine g_iload_n hX dX0_changeAt_4 rfl rfl ?_
  refine g_aload_n hX dX0_changeAt_5 rfl rfl ?_
  refine g_getf hX dX0_changeAt_6 fl_X0_28 (g0) rfl ?_
  refine g_icmp_geN (tgt := 21) hX dX0_changeAt_9 (by decide) (by omega) (fun c2 => absurd c2 (by omega)) (fun c2 => ?_)
  refine g_aload_n hX dX0_changeAt_12 rfl rfl ?_
  refine g_getf hX dX0_changeAt_13 fl_X0_9 (g0) rfl ?_
  refine g_iload_n hX dX0_changeAt_16 rfl rfl ?_
  refine g_iaload hX dX0_changeAt_17 (g1) (i) (by omega) rfl (by omega) ?_
  refine g_goto (tgt := 22) hX dX0_changeAt_18 (by decide) ?_
  refine g_ireturn hX hr dX0_changeAt_22 (Nat.le_refl _) (Nat.le_refl _)  ?_
  exact ⟨rfl, rfl, rfl⟩
set_option maxRecDepth 20000 in
theorem kX0_append {l : Launch} {K : gw_K} (hst : l.stackTraces = false) {c m n : Nat} {h : gw_H} {ld rw_ fr ho : Int32} {ch : Nat → Int32} {v : Int32} (g0 : h c = (oB 0 [.ref (c + 1), .ref (c + 2), .int (nI m), .int ld, .int rw_, .int fr, .int ho])) (g1 : h (c + 1) = (aI 12 ch)) (hm12 : m < 12) : Ctr l K mX0_append [.ref c, .int v] h n 0 0 (PQ (none) (hs (hs h c (oB 0 [.ref (c + 1), .ref (c + 2), .int (nI (m + 1)), .int ld, .int rw_, .int fr, .int ho])) (c + 1) (aI 12 (upd ch m v))) n) (PX0) := by
  refine Ctr.of hst pn_X0_append (Nat.le_of_ble_eq_true rfl) (fun X hX hr hE => ?_)
  have hX : FX l K X cX0_append RX0 0 0 0 0 := hX
  show GW X 0 [some (.ref c), some (.int v)] [] h n 0 0
  refine g_aload_n hX dX0_append_0 rfl rfl ?_
  refine g_getf hX dX0_append_1 fl_X0_28 (g0) rfl ?_
  refine g_bipush (v := (nI 12)) hX dX0_append_4 (by decide) ?_
  refine g_icmp_geN (tgt := 29) hX dX0_append_6 (by decide) (by omega) (fun c1 => absurd c1 (by omega)) (fun c1 => ?_)
  refine g_aload_n hX dX0_append_9 rfl rfl ?_
  refine g_getf hX dX0_append_10 fl_X0_9 (g0) rfl ?_
  refine g_aload_n hX dX0_append_13 rfl rfl ?_
  refine g_getf hX dX0_append_14 fl_X0_28 (g0) rfl ?_
  refine g_iload_n hX dX0_append_17 rfl rfl ?_
  refine g_iastore hX dX0_append_18 (g1) (m) (by omega) rfl (by omega) ?_
  refine g_aload_n hX dX0_append_19 rfl rfl ?_
  refine g_dup hX dX0_append_20 rfl ?_
  refine g_getf hX dX0_append_21 fl_X0_28 ((hs_ne (by omega)).trans (g0)) rfl ?_
  refine g_iconst (v := (nI 1)) hX dX0_append_24 (by decide) ?_
  refine g_iaddN hX dX0_append_25 ?_
  refine g_putI hX dX0_append_26 fl_X0_28 ((hs_ne (by omega)).trans (g0)) (Nat.le_of_ble_eq_true rfl) ?_
  show GW X 29 [some (.ref c), some (.int v)] [] (hs (hs h (c + 1) (aI 12 (upd ch m v))) c (oB 0 [.ref (c + 1), .ref (c + 2), .int (nI (m + 1)), .int ld, .int rw_, .int fr, .int ho])) n 0 0
  refine g_return hX hr dX0_append_29 (Nat.le_refl _) (Nat.le_refl _)  ?_
  exact ⟨rfl, (by first | (rw [hs_cm (k := c) (j := c + 1) _ _ _ (by omega)]; done) | (rw [hs_cm (k := c) (j := c + 1) _ _ _ (by omega)]; rfl)), rfl⟩
set_option maxRecDepth 20000 in
theorem kX0_allDodges {l : Launch} {K : gw_K} (hst : l.stackTraces = false) {c m n : Nat} {h : gw_H} {ld rw_ fr ho : Int32} {dg : Nat → Int32}  (g0 : h c = (oB 0 [.ref (c + 1), .ref (c + 2), .int (nI m), .int ld, .int rw_, .int fr, .int ho])) (g2 : h (c + 2) = (aI 6 dg))  : Ctr l K mX0_allDodges [.ref c] h n 0 0 (PQ (some (.int (sumI dg 6))) h n) (PX0) := by
  refine Ctr.of hst pn_X0_allDodges (Nat.le_of_ble_eq_true rfl) (fun X hX hr hE => ?_)
  have hX : FX l K X cX0_allDodges RX0 0 0 0 0 := hX
  show GW X 0 [some (.ref c), none, none] [] h n 0 0
  refine g_iconst (v := (nI 0)) hX dX0_allDodges_0 (by decide) ?_
  refine g_istore_n (i := 1) hX dX0_allDodges_1 rfl (Nat.le_of_ble_eq_true rfl) rfl ?_
  refine g_iconst (v := (nI 0)) hX dX0_allDodges_2 (by decide) ?_
  refine g_istore_n (i := 2) hX dX0_allDodges_3 rfl (Nat.le_of_ble_eq_true rfl) rfl ?_
  refine g_for (P := fun (i : Nat) (s : Int32) => GW X 4 [some (.ref c), some (.int s), some (.int (nI i))] [] h n 0 0) (step := fun i s => s + dg i) 6 (nI 0) ?_ ?_
  · intro i1 s2 hi1 es2 ihi1
    have ihi1 : GW X 4 [some (.ref c), some (.int (s2 + dg i1)), some (.int (nI (i1 + 1)))] [] h n 0 0 := ihi1
    refine g_iload_n hX dX0_allDodges_4 rfl rfl ?_
    refine g_bipush (v := (nI 6)) hX dX0_allDodges_5 (by decide) ?_
    refine g_icmp_geN (tgt := 25) hX dX0_allDodges_7 (by decide) (by omega) (fun c3 => absurd c3 (by omega)) (fun c3 => ?_)
    refine g_iload_n hX dX0_allDodges_10 rfl rfl ?_
    refine g_aload_n hX dX0_allDodges_11 rfl rfl ?_
    refine g_getf hX dX0_allDodges_12 fl_X0_15 (g0) rfl ?_
    refine g_iload_n hX dX0_allDodges_15 rfl rfl ?_
    refine g_iaload hX dX0_allDodges_16 (g2) (i1) (by omega) rfl (by omega) ?_
    refine g_iadd hX dX0_allDodges_17 ?_
    refine g_istore_n (i := 1) hX dX0_allDodges_18 rfl (Nat.le_of_ble_eq_true rfl) rfl ?_
    refine g_iinc (v := (nI (i1 + 1))) hX dX0_allDodges_19 rfl rfl (gn_inc _ _) ?_
    refine g_goto (tgt := 4) hX dX0_allDodges_22 (by decide) ?_
    refine g_cv ihi1 (by simp [c3]) rfl
  · refine g_iload_n hX dX0_allDodges_4 rfl rfl ?_
    refine g_bipush (v := (nI 6)) hX dX0_allDodges_5 (by decide) ?_
    refine g_icmp_ge (tgt := 25) hX dX0_allDodges_7 (by decide) (fun _ => ?_) (fun c => absurd (by decide) c)
    refine g_iload_n hX dX0_allDodges_25 rfl rfl ?_
    refine g_ireturn hX hr dX0_allDodges_26 (Nat.le_refl _) (Nat.le_refl _)  ?_
    exact ⟨rfl, rfl, rfl⟩
set_option maxRecDepth 20000 in
theorem kX0_tellOfCourse {l : Launch} {K : gw_K} (hst : l.stackTraces = false) {c m n : Nat} {h : gw_H} {ld rw_ fr ho : Int32} {dg : Nat → Int32} {q : Nat} (g0 : h c = (oB 0 [.ref (c + 1), .ref (c + 2), .int (nI m), .int ld, .int rw_, .int fr, .int ho])) (g2 : h (c + 2) = (aI 6 dg)) (hq : q < 6) : Ctr l K mX0_tellOfCourse [.ref c, .int (nI q)] h n 0 0 (PQ (some (.int (aboutI m ld rw_ fr dg ho q))) h n) (PX0) := by
  refine Ctr.of hst pn_X0_tellOfCourse (Nat.le_of_ble_eq_true rfl) (fun X hX hr hE => ?_)
  have hX : FX l K X cX0_tellOfCourse RX0 1 22 0 0 := hX
  show GW X 0 [some (.ref c), some (.int (nI q))] [] h n 0 0
  refine g_iload_n hX dX0_tellOfCourse_0 rfl rfl ?_
  rcases (show q = 0 ∨ q = 1 ∨ q = 2 ∨ q = 3 ∨ q = 4 ∨ q = 5 by omega) with rfl | rfl | rfl | rfl | rfl | rfl
  · refine g_tableIn (tgt := 36) hX dX0_tellOfCourse_1 (by decide) (by decide) rfl (by decide) ?_
    refine g_aload_n hX dX0_tellOfCourse_36 rfl rfl ?_
    refine g_getf hX dX0_tellOfCourse_37 fl_X0_28 (g0) rfl ?_
    refine g_ireturn hX hr dX0_tellOfCourse_40 (Nat.le_refl _) (Nat.le_refl _)  ?_
    exact ⟨rfl, rfl, rfl⟩
  · refine g_tableIn (tgt := 41) hX dX0_tellOfCourse_1 (by decide) (by decide) rfl (by decide) ?_
    refine g_aload_n hX dX0_tellOfCourse_41 rfl rfl ?_
    refine g_getf hX dX0_tellOfCourse_42 fl_X0_18 (g0) rfl ?_
    refine g_ireturn hX hr dX0_tellOfCourse_45 (Nat.le_refl _) (Nat.le_refl _)  ?_
    exact ⟨rfl, rfl, rfl⟩
  · refine g_tableIn (tgt := 46) hX dX0_tellOfCourse_1 (by decide) (by decide) rfl (by decide) ?_
    refine g_aload_n hX dX0_tellOfCourse_46 rfl rfl ?_
    refine g_getf hX dX0_tellOfCourse_47 fl_X0_22 (g0) rfl ?_
    refine g_ireturn hX hr dX0_tellOfCourse_50 (Nat.le_refl _) (Nat.le_refl _)  ?_
    exact ⟨rfl, rfl, rfl⟩
  · refine g_tableIn (tgt := 51) hX dX0_tellOfCourse_1 (by decide) (by decide) rfl (by decide) ?_
    refine g_aload_n hX dX0_tellOfCourse_51 rfl rfl ?_
    refine g_getf hX dX0_tellOfCourse_52 fl_X0_60 (g0) rfl ?_
    refine g_ireturn hX hr dX0_tellOfCourse_55 (Nat.le_refl _) (Nat.le_refl _)  ?_
    exact ⟨rfl, rfl, rfl⟩
  · refine g_tableIn (tgt := 56) hX dX0_tellOfCourse_1 (by decide) (by decide) rfl (by decide) ?_
    refine g_aload_n hX dX0_tellOfCourse_56 rfl rfl ?_
    refine g_callV (As := []) hX dX0_tellOfCourse_57 cb_X0_allDodges ml_X0_71 im_X0_allDodges se_X0_allDodges rfl rfl (g0) ⟨_, rfl, rfl⟩ (kX0_allDodges hst (g0) (g2) ) (Nat.le_of_ble_eq_true rfl) (Nat.le_of_ble_eq_true rfl) (by omega) (by omega) (Nat.le_of_ble_eq_true rfl) GX.no (pq ?_)
    show GW X 60 [some (.ref c), some (.int (nI 4))] [.int (sumI dg 6)] h n 0 0
    refine g_ireturn hX hr dX0_tellOfCourse_60 (Nat.le_refl _) (Nat.le_refl _)  ?_
    exact ⟨rfl, rfl, rfl⟩
  · refine g_tableOut (tgt := 61) hX dX0_tellOfCourse_1 (by decide) (by decide) ?_
    refine g_aload_n hX dX0_tellOfCourse_61 rfl rfl ?_
    refine g_getf hX dX0_tellOfCourse_62 fl_X0_25 (g0) rfl ?_
    refine g_ireturn hX hr dX0_tellOfCourse_65 (Nat.le_refl _) (Nat.le_refl _)  ?_
    exact ⟨rfl, rfl, rfl⟩
set_option maxRecDepth 20000 in
theorem kX0_goThroughLead {l : Launch} {K : gw_K} (hst : l.stackTraces = false) {u n c m : Nat} {h : gw_H} {t : TT} {ld rw_ fr ho : Int32} {ch dg : Nat → Int32} (f0 : h u = (oB 1 [.ref (u + 1), .ref (u + 2), .ref (u + 3), .ref (u + 4), .int t.2.2.2.2.1, .int t.2.2.2.2.2])) (f1 : h (u + 1) = (aI 6 (fun b => nI (t.1 b)))) (f2 : h (u + 2) = (aI 6 t.2.1)) (f3 : h (u + 3) = (aI 6 t.2.2.1)) (f4 : h (u + 4) = (aJ 122 t.2.2.2.1)) (g0 : h c = (oB 0 [.ref (c + 1), .ref (c + 2), .int (nI m), .int ld, .int rw_, .int fr, .int ho])) (g1 : h (c + 1) = (aI 12 ch)) (g2 : h (c + 2) = (aI 6 dg)) (huc : u + 5 ≤ c) (hm12 : m ≤ 12) (hch : ∀ i, i < m → vchg (ch i)) (hp : vplc t.1) : Ctr l K mX0_goThroughLead [.ref c, .ref u] h n 0 0 (PQ (none) (hs (putT h u ((leadI ch m (t, dg)).1)) (c + 2) (aI 6 ((leadI ch m (t, dg)).2))) n) (PX0) := by
  refine Ctr.of hst pn_X0_goThroughLead (Nat.le_of_ble_eq_true rfl) (fun X hX hr hE => ?_)
  have hX : FX l K X cX0_goThroughLead RX0 2 47 0 0 := hX
  show GW X 0 [some (.ref c), some (.ref u), none, none] [] h n 0 0
  refine g_iconst (v := (nI 0)) hX dX0_goThroughLead_0 (by decide) ?_
  refine g_istore_n (i := 2) hX dX0_goThroughLead_1 rfl (Nat.le_of_ble_eq_true rfl) rfl ?_
  have hI := lead_ok (s := (t, dg)) hch hp
  refine g_cg (L' := [some (.ref c), some (.ref u), some (.int (nI 0)), none]) (h' := (hs (putT h u ((t, dg).1)) (c + 2) (aI 6 ((t, dg).2)))) (by rfl) (by rw [putT_id f0 f1 f2 f3 f4, hs_id g2]) ?_
  refine g_for (P := fun (i : Nat) (s : TT × (Nat → Int32)) => GW X 2 [some (.ref c), some (.ref u), some (.int (nI i)), none] [] (hs (putT h u s.1) (c + 2) (aI 6 s.2)) n 0 0) (step := fun i s => ldStep (ch i) s) m (t, dg) ?_ ?_
  · intro i1 ⟨ts2, ds2⟩ hi1 es2 ihi1
    have ihi1 : GW X 2 [some (.ref c), some (.ref u), some (.int (nI (i1 + 1))), none] [] (hs (putT h u ((ldStep (ch i1) (ts2, ds2)).1)) (c + 2) (aI 6 ((ldStep (ch i1) (ts2, ds2)).2))) n 0 0 := ihi1
    have hpi : vplc ts2.1 := by
      have q := hI i1 (by omega)
      rw [← es2] at q
      exact q
    have hci := hch i1 hi1
    refine g_iload_n hX dX0_goThroughLead_2 rfl rfl ?_
    refine g_aload_n hX dX0_goThroughLead_3 rfl rfl ?_
    refine g_getf hX dX0_goThroughLead_4 fl_X0_28 ((hs_ne (by omega)).trans ((putT_ne (by omega)).trans (g0))) rfl ?_
    refine g_icmp_geN (tgt := 58) hX dX0_goThroughLead_7 (by decide) (by omega) (fun c3 => absurd c3 (by omega)) (fun c3 => ?_)
    refine g_aload_n hX dX0_goThroughLead_10 rfl rfl ?_
    refine g_aload_n hX dX0_goThroughLead_11 rfl rfl ?_
    refine g_getf hX dX0_goThroughLead_12 fl_X0_9 ((hs_ne (by omega)).trans ((putT_ne (by omega)).trans (g0))) rfl ?_
    refine g_iload_n hX dX0_goThroughLead_15 rfl rfl ?_
    refine g_iaload hX dX0_goThroughLead_16 ((hs_ne (by omega)).trans ((putT_ne (by omega)).trans (g1))) (i1) (by omega) rfl (by omega) ?_
    refine g_callV (As := [.int (ch i1)]) hX dX0_goThroughLead_17 cb_X1_makeChange ml_X0_63 im_X1_makeChange se_X1_makeChange rfl rfl ((hs_ne (by omega)).trans (putT_0)) ⟨_, rfl, rfl⟩ (kX1_makeChange hst ((hs_ne (by omega)).trans (putT_0)) ((hs_ne (by omega)).trans (putT_1)) ((hs_ne (by omega)).trans (putT_2)) ((hs_ne (by omega)).trans (putT_3)) ((hs_ne (by omega)).trans (putT_4)) (hci) (hpi)) (Nat.le_of_ble_eq_true rfl) (Nat.le_of_ble_eq_true rfl) (by omega) (by omega) (Nat.le_of_ble_eq_true rfl) GX.no (pq ?_)
    show GW X 20 [some (.ref c), some (.ref u), some (.int (nI i1)), none] [] (putT (hs (putT h u ts2) (c + 2) (aI 6 ds2)) u (tstep (ch i1) ts2)) n 0 0
    refine g_cg (h' := (hs (putT h u (tstep (ch i1) ts2)) (c + 2) (aI 6 ds2))) rfl (by rw [putT_hi (k := c + 2) (u := u) (by omega), putT_putT (u := u)]) ?_
    refine g_iconst (v := (nI 0)) hX dX0_goThroughLead_20 (by decide) ?_
    refine g_istore_n (i := 3) hX dX0_goThroughLead_21 rfl (Nat.le_of_ble_eq_true rfl) rfl ?_
    refine g_for (P := fun (i : Nat) (s : Nat → Int32) => GW X 22 [some (.ref c), some (.ref u), some (.int (nI i1)), some (.int (nI i))] [] (hs (putT h u (tstep (ch i1) ts2)) (c + 2) (aI 6 s)) n 0 0) (step := fun i s => if dodI (tstep (ch i1) ts2).2.1 (tstep (ch i1) ts2).2.2.1 i then upd s i (s i + nI 1) else s) 6 ds2 ?_ ?_
    · intro i4 s5 hi4 es5 ihi4
      have ihi4 : GW X 22 [some (.ref c), some (.ref u), some (.int (nI i1)), some (.int (nI (i4 + 1)))] [] (hs (putT h u (tstep (ch i1) ts2)) (c + 2) (aI 6 (if dodI (tstep (ch i1) ts2).2.1 (tstep (ch i1) ts2).2.2.1 i4 then upd s5 i4 (s5 i4 + nI 1) else s5))) n 0 0 := ihi4
      refine g_iload_n hX dX0_goThroughLead_22 rfl rfl ?_
      refine g_bipush (v := (nI 6)) hX dX0_goThroughLead_23 (by decide) ?_
      refine g_icmp_geN (tgt := 52) hX dX0_goThroughLead_25 (by decide) (by omega) (fun c6 => absurd c6 (by omega)) (fun c6 => ?_)
      refine g_aload_n hX dX0_goThroughLead_28 rfl rfl ?_
      refine g_iload_n hX dX0_goThroughLead_29 rfl rfl ?_
      refine g_callV (As := [.int (nI i4)]) hX dX0_goThroughLead_30 cb_X1_hasDodged ml_X0_67 im_X1_hasDodged se_X1_hasDodged rfl rfl ((hs_ne (by omega)).trans (putT_0)) ⟨_, rfl, rfl⟩ (kX1_hasDodged hst ((hs_ne (by omega)).trans (putT_0)) ((hs_ne (by omega)).trans (putT_2)) ((hs_ne (by omega)).trans (putT_3)) (by omega)) (Nat.le_of_ble_eq_true rfl) (Nat.le_of_ble_eq_true rfl) (by omega) (by omega) (Nat.le_of_ble_eq_true rfl) GX.no (pq ?_)
      show GW X 33 [some (.ref c), some (.ref u), some (.int (nI i1)), some (.int (nI i4))] [.int (if dodI ((tstep (ch i1) ts2).2.1) ((tstep (ch i1) ts2).2.2.1) i4 then nI 1 else nI 0)] (hs (putT h u (tstep (ch i1) ts2)) (c + 2) (aI 6 s5)) n 0 0
      refine g_ifB_eq (tgt := 46) hX dX0_goThroughLead_33 (by decide) (fun c7 => ?_) (fun c7 => ?_)
      · refine g_iinc (v := (nI (i4 + 1))) hX dX0_goThroughLead_46 rfl rfl (gn_inc _ _) ?_
        refine g_goto (tgt := 22) hX dX0_goThroughLead_49 (by decide) ?_
        refine g_cv ihi4 rfl (by rw [if_neg c7])
      · refine g_aload_n hX dX0_goThroughLead_36 rfl rfl ?_
        refine g_getf hX dX0_goThroughLead_37 fl_X0_15 ((hs_ne (by omega)).trans ((putT_ne (by omega)).trans (g0))) rfl ?_
        refine g_iload_n hX dX0_goThroughLead_40 rfl rfl ?_
        refine g_dup2 hX dX0_goThroughLead_41 rfl rfl ?_
        refine g_iaload hX dX0_goThroughLead_42 (hs_eq _ _ _) (i4) (by omega) rfl (by omega) ?_
        refine g_iconst (v := (nI 1)) hX dX0_goThroughLead_43 (by decide) ?_
        refine g_iadd hX dX0_goThroughLead_44 ?_
        refine g_iastore hX dX0_goThroughLead_45 (hs_eq _ _ _) (i4) (by omega) rfl (by omega) ?_
        refine g_cg rfl hs_hs ?_
        refine g_iinc (v := (nI (i4 + 1))) hX dX0_goThroughLead_46 rfl rfl (gn_inc _ _) ?_
        refine g_goto (tgt := 22) hX dX0_goThroughLead_49 (by decide) ?_
        refine g_cv ihi4 rfl (by rw [if_pos c7])
    · refine g_iload_n hX dX0_goThroughLead_22 rfl rfl ?_
      refine g_bipush (v := (nI 6)) hX dX0_goThroughLead_23 (by decide) ?_
      refine g_icmp_ge (tgt := 52) hX dX0_goThroughLead_25 (by decide) (fun _ => ?_) (fun c => absurd (by decide) c)
      refine g_iinc (v := (nI (i1 + 1))) hX dX0_goThroughLead_52 rfl rfl (gn_inc _ _) ?_
      refine g_goto (tgt := 2) hX dX0_goThroughLead_55 (by decide) ?_
      refine g_kill 3 ?_
      refine g_cv ihi1 rfl rfl
  · refine g_iload_n hX dX0_goThroughLead_2 rfl rfl ?_
    refine g_aload_n hX dX0_goThroughLead_3 rfl rfl ?_
    refine g_getf hX dX0_goThroughLead_4 fl_X0_28 ((hs_ne (by omega)).trans ((putT_ne (by omega)).trans (g0))) rfl ?_
    refine g_icmp_geN (tgt := 58) hX dX0_goThroughLead_7 (by decide) (by omega) (fun c8 => ?_) (fun c8 => absurd c8 (by omega))
    refine g_return hX hr dX0_goThroughLead_58 (Nat.le_refl _) (Nat.le_refl _)  ?_
    exact ⟨rfl, rfl, rfl⟩
set_option maxRecDepth 20000 in
theorem kX0_measureCourse {l : Launch} {K : gw_K} (hst : l.stackTraces = false) {u n c m : Nat} {h : gw_H} {pl mv ma : Nat → Int32} {sn : Nat → Int64} {cm rr : Int32} {ld rw_ fr ho : Int32} {ch dg : Nat → Int32} (f0 : h u = (oB 1 [.ref (u + 1), .ref (u + 2), .ref (u + 3), .ref (u + 4), .int cm, .int rr])) (f1 : h (u + 1) = (aI 6 pl)) (f2 : h (u + 2) = (aI 6 mv)) (f3 : h (u + 3) = (aI 6 ma)) (f4 : h (u + 4) = (aJ 122 sn)) (g0 : h c = (oB 0 [.ref (c + 1), .ref (c + 2), .int (nI m), .int ld, .int rw_, .int fr, .int ho])) (g1 : h (c + 1) = (aI 12 ch)) (g2 : h (c + 2) = (aI 6 dg)) (huc : u + 5 ≤ c) (hm12 : m ≤ 12) (hch : ∀ i, i < m → vchg (ch i)) : Ctr l K mX0_measureCourse [.ref c, .ref u] h n 0 0 (PQ (none) (hs (hs (putT h u ((crsI ch m ma).2.1)) c (oB 0 [.ref (c + 1), .ref (c + 2), .int (nI m), .int (nI (crsI ch m ma).1), .int ((crsI ch m ma).2.1.2.2.2.2.1 + nI 1 - (crsI ch m ma).2.1.2.2.2.2.2), .int (frI (crsI ch m ma).2.1.1 (crsI ch m ma).2.1.2.2.2.2.1 (crsI ch m ma).2.1.2.2.2.2.2), .int (homeI (crs1 ch m ma).1.1)])) (c + 2) (aI 6 ((crsI ch m ma).2.2))) n) (PX0) := by
  refine Ctr.of hst pn_X0_measureCourse (Nat.le_of_ble_eq_true rfl) (fun X hX hr hE => ?_)
  have hX : FX l K X cX0_measureCourse RX0 3 70 0 0 := hX
  show GW X 0 [some (.ref c), some (.ref u), none] [] h n 0 0
  have hv1 : vplc (crs1 ch m ma).1.1 := crs1_ok hch
  refine g_aload_n hX dX0_measureCourse_0 rfl rfl ?_
  refine g_getf hX dX0_measureCourse_1 fl_X0_15 (g0) rfl ?_
  refine g_iconst (v := (nI 0)) hX dX0_measureCourse_4 (by decide) ?_
  refine g_callS (As := [.ref (c + 2), .int (nI 0)]) hX dX0_measureCourse_5 cb_J7_fill_53178 ml_X0_31 st_J7_fill_53178 rfl rfl (kJ7_fill_53178 hst (g2) (by omega)) (Nat.le_of_ble_eq_true rfl) (Nat.le_of_ble_eq_true rfl) (by omega) (by omega) (Nat.le_of_ble_eq_true rfl) GX.no (pq ?_)
  show GW X 8 [some (.ref c), some (.ref u), none] [] (hs h (c + 2) (aI 6 (fun _ => (nI 0)))) n 0 0
  refine g_aload_n hX dX0_measureCourse_8 rfl rfl ?_
  refine g_callV (As := []) hX dX0_measureCourse_9 cb_X1_begin ml_X0_37 im_X1_begin se_X1_begin rfl rfl ((hs_ne (by omega)).trans (f0)) ⟨_, rfl, rfl⟩ (kX1_begin hst ((hs_ne (by omega)).trans (f0)) ((hs_ne (by omega)).trans (f1)) ((hs_ne (by omega)).trans (f2)) ((hs_ne (by omega)).trans (f3)) ((hs_ne (by omega)).trans (f4))) (Nat.le_of_ble_eq_true rfl) (Nat.le_of_ble_eq_true rfl) (by omega) (by omega) (Nat.le_of_ble_eq_true rfl) GX.no (pq ?_)
  show GW X 12 [some (.ref c), some (.ref u), none] [] (putT (hs h (c + 2) (aI 6 (fun _ => (nI 0)))) u (tbegin ma)) n 0 0
  refine g_cg (h' := (hs (putT h u (tbegin ma)) (c + 2) (aI 6 (fun _ => (nI 0))))) rfl (by rw [putT_hi (k := c + 2) (u := u) (by omega)]) ?_
  refine g_aload_n hX dX0_measureCourse_12 rfl rfl ?_
  refine g_aload_n hX dX0_measureCourse_13 rfl rfl ?_
  refine g_callV (As := [.ref u]) hX dX0_measureCourse_14 cb_X0_goThroughLead ml_X0_42 im_X0_goThroughLead se_X0_goThroughLead rfl rfl ((hs_ne (by omega)).trans ((putT_ne (by omega)).trans (g0))) ⟨_, rfl, rfl⟩ (kX0_goThroughLead hst ((hs_ne (by omega)).trans (putT_0)) ((hs_ne (by omega)).trans (putT_1)) ((hs_ne (by omega)).trans (putT_2)) ((hs_ne (by omega)).trans (putT_3)) ((hs_ne (by omega)).trans (putT_4)) ((hs_ne (by omega)).trans ((putT_ne (by omega)).trans (g0))) ((hs_ne (by omega)).trans ((putT_ne (by omega)).trans (g1))) (hs_eq _ _ _) (by omega) (by omega) (hch) (fun _ h => h)) (Nat.le_of_ble_eq_true rfl) (Nat.le_of_ble_eq_true rfl) (by omega) (by omega) (Nat.le_of_ble_eq_true rfl) GX.no (pq ?_)
  show GW X 17 [some (.ref c), some (.ref u), none] [] (hs (putT (hs (putT h u (tbegin ma)) (c + 2) (aI 6 (fun _ => (nI 0)))) u ((leadI ch m ((tbegin ma), (fun _ => (nI 0)))).1)) (c + 2) (aI 6 ((leadI ch m ((tbegin ma), (fun _ => (nI 0)))).2))) n 0 0
  refine g_cg (h' := (hs (putT h u ((leadI ch m ((tbegin ma), (fun _ => (nI 0)))).1)) (c + 2) (aI 6 ((leadI ch m ((tbegin ma), (fun _ => (nI 0)))).2)))) rfl (by rw [putT_hi (k := c + 2) (u := u) (by omega), putT_putT (u := u), hs_hs (k := c + 2)]) ?_
  refine g_aload_n hX dX0_measureCourse_17 rfl rfl ?_
  refine g_aload_n hX dX0_measureCourse_18 rfl rfl ?_
  refine g_callV (As := []) hX dX0_measureCourse_19 cb_X1_bellsAtHome ml_X0_46 im_X1_bellsAtHome se_X1_bellsAtHome rfl rfl ((hs_ne (by omega)).trans (putT_0)) ⟨_, rfl, rfl⟩ (kX1_bellsAtHome hst ((hs_ne (by omega)).trans (putT_0)) ((hs_ne (by omega)).trans (putT_1)) (hv1)) (Nat.le_of_ble_eq_true rfl) (Nat.le_of_ble_eq_true rfl) (by omega) (by omega) (Nat.le_of_ble_eq_true rfl) GX.no (pq ?_)
  show GW X 22 [some (.ref c), some (.ref u), none] [.int (homeI ((leadI ch m ((tbegin ma), (fun _ => (nI 0)))).1.1)), .ref c] (hs (putT h u ((leadI ch m ((tbegin ma), (fun _ => (nI 0)))).1)) (c + 2) (aI 6 ((leadI ch m ((tbegin ma), (fun _ => (nI 0)))).2))) n 0 0
  refine g_putI hX dX0_measureCourse_22 fl_X0_25 ((hs_ne (by omega)).trans ((putT_ne (by omega)).trans (g0))) (Nat.le_of_ble_eq_true rfl) ?_
  show GW X 25 [some (.ref c), some (.ref u), none] [] (hs (hs (putT h u ((leadI ch m ((tbegin ma), (fun _ => (nI 0)))).1)) (c + 2) (aI 6 ((leadI ch m ((tbegin ma), (fun _ => (nI 0)))).2))) c (oB 0 [.ref (c + 1), .ref (c + 2), .int (nI m), .int ld, .int rw_, .int fr, .int (homeI ((leadI ch m ((tbegin ma), (fun _ => (nI 0)))).1.1))])) n 0 0
  refine g_iconst (v := (nI 1)) hX dX0_measureCourse_25 (by decide) ?_
  refine g_istore_n (i := 2) hX dX0_measureCourse_26 rfl (Nat.le_of_ble_eq_true rfl) rfl ?_
  refine g_cg (h' := (hs (hs (putT h u ((leadI ch m ((tbegin ma), (fun _ => (nI 0)))).1)) c (oB 0 [.ref (c + 1), .ref (c + 2), .int (nI m), .int ld, .int rw_, .int fr, .int (homeI ((leadI ch m ((tbegin ma), (fun _ => (nI 0)))).1.1))])) (c + 2) (aI 6 ((leadI ch m ((tbegin ma), (fun _ => (nI 0)))).2)))) rfl (by rw [hs_cm (k := c) (j := c + 2) _ _ _ (by omega)]) ?_
  refine g_cg (L' := [some (.ref c), some (.ref u), some (.int (nI 1))]) (h' := (hs (hs (putT h u ((itr (fun _ s => leadI ch m s) 0 (crs1 ch m ma)).1)) c (oB 0 [.ref (c + 1), .ref (c + 2), .int (nI m), .int ld, .int rw_, .int fr, .int (homeI (crs1 ch m ma).1.1)])) (c + 2) (aI 6 ((itr (fun _ s => leadI ch m s) 0 (crs1 ch m ma)).2)))) (by rfl) (by rfl) ?_
  refine g_loop (P := fun (i : Nat) => GW X 27 [some (.ref c), some (.ref u), some (.int (nI (1 + i)))] [] (hs (hs (putT h u ((itr (fun _ s => leadI ch m s) i (crs1 ch m ma)).1)) c (oB 0 [.ref (c + 1), .ref (c + 2), .int (nI m), .int ld, .int rw_, .int fr, .int (homeI (crs1 ch m ma).1.1)])) (c + 2) (aI 6 ((itr (fun _ s => leadI ch m s) i (crs1 ch m ma)).2))) n 0 0) (fun i => crs ch m 5 1 (crs1 ch m ma) = crs ch m (5 - i) (1 + i) (itr (fun _ s => leadI ch m s) i (crs1 ch m ma))) 5 rfl ?_ ?_
  · intro i1 hi1 Ii1 ihi1
    have ihi1 : crs ch m 5 1 (crs1 ch m ma) = crs ch m (5 - (i1 + 1)) (1 + (i1 + 1)) (itr (fun _ s => leadI ch m s) (i1 + 1) (crs1 ch m ma)) → GW X 27 [some (.ref c), some (.ref u), some (.int (nI (1 + i1 + 1)))] [] (hs (hs (putT h u ((itr (fun _ s => leadI ch m s) (i1 + 1) (crs1 ch m ma)).1)) c (oB 0 [.ref (c + 1), .ref (c + 2), .int (nI m), .int ld, .int rw_, .int fr, .int (homeI (crs1 ch m ma).1.1)])) (c + 2) (aI 6 ((itr (fun _ s => leadI ch m s) (i1 + 1) (crs1 ch m ma)).2))) n 0 0 := ihi1
    refine g_iload_n hX dX0_measureCourse_27 rfl rfl ?_
    refine g_bipush (v := (nI 6)) hX dX0_measureCourse_28 (by decide) ?_
    refine g_icmp_geN (tgt := 51) hX dX0_measureCourse_30 (by decide) (by omega) (fun c2 => absurd c2 (by omega)) (fun c2 => ?_)
    refine g_aload_n hX dX0_measureCourse_33 rfl rfl ?_
    refine g_callV (As := []) hX dX0_measureCourse_34 cb_X1_isRounds ml_X0_50 im_X1_isRounds se_X1_isRounds rfl rfl ((hs_ne (by omega)).trans ((hs_ne (by omega)).trans (putT_0))) ⟨_, rfl, rfl⟩ (kX1_isRounds hst ((hs_ne (by omega)).trans ((hs_ne (by omega)).trans (putT_0))) ((hs_ne (by omega)).trans ((hs_ne (by omega)).trans (putT_1))) (leads_ok hch hv1 5 _ (by omega))) (Nat.le_of_ble_eq_true rfl) (Nat.le_of_ble_eq_true rfl) (by omega) (by omega) (Nat.le_of_ble_eq_true rfl) GX.no (pq ?_)
    show GW X 37 [some (.ref c), some (.ref u), some (.int (nI (1 + i1)))] [.int (if homeI ((itr (fun _ s => leadI ch m s) i1 (crs1 ch m ma)).1.1) = nI 6 then nI 1 else nI 0)] (hs (hs (putT h u ((itr (fun _ s => leadI ch m s) i1 (crs1 ch m ma)).1)) c (oB 0 [.ref (c + 1), .ref (c + 2), .int (nI m), .int ld, .int rw_, .int fr, .int (homeI (crs1 ch m ma).1.1)])) (c + 2) (aI 6 ((itr (fun _ s => leadI ch m s) i1 (crs1 ch m ma)).2))) n 0 0
    refine g_ifB_ne (tgt := 51) hX dX0_measureCourse_37 (by decide) (fun c3 => ?_) (fun c3 => ?_)
    · have hR : crsI ch m ma = (1 + i1, (itr (fun _ s => leadI ch m s) i1 (crs1 ch m ma))) := (Ii1).trans (crs_end hi1 c3)
      refine g_aload_n hX dX0_measureCourse_51 rfl rfl ?_
      refine g_iload_n hX dX0_measureCourse_52 rfl rfl ?_
      refine g_putI hX dX0_measureCourse_53 fl_X0_18 ((hs_ne (by omega)).trans (hs_eq _ _ _)) (Nat.le_of_ble_eq_true rfl) ?_
      show GW X 56 [some (.ref c), some (.ref u), some (.int (nI (1 + i1)))] [] (hs (hs (hs (putT h u ((itr (fun _ s => leadI ch m s) i1 (crs1 ch m ma)).1)) c (oB 0 [.ref (c + 1), .ref (c + 2), .int (nI m), .int ld, .int rw_, .int fr, .int (homeI (crs1 ch m ma).1.1)])) (c + 2) (aI 6 ((itr (fun _ s => leadI ch m s) i1 (crs1 ch m ma)).2))) c (oB 0 [.ref (c + 1), .ref (c + 2), .int (nI m), .int (nI (1 + i1)), .int rw_, .int fr, .int (homeI (crs1 ch m ma).1.1)])) n 0 0
      refine g_aload_n hX dX0_measureCourse_56 rfl rfl ?_
      refine g_aload_n hX dX0_measureCourse_57 rfl rfl ?_
      refine g_callV (As := []) hX dX0_measureCourse_58 cb_X1_differentRows ml_X0_54 im_X1_differentRows se_X1_differentRows rfl rfl ((hs_ne (by omega)).trans ((hs_ne (by omega)).trans ((hs_ne (by omega)).trans (putT_0)))) ⟨_, rfl, rfl⟩ (kX1_differentRows hst ((hs_ne (by omega)).trans ((hs_ne (by omega)).trans ((hs_ne (by omega)).trans (putT_0)))) ) (Nat.le_of_ble_eq_true rfl) (Nat.le_of_ble_eq_true rfl) (by omega) (by omega) (Nat.le_of_ble_eq_true rfl) GX.no (pq ?_)
      show GW X 61 [some (.ref c), some (.ref u), some (.int (nI (1 + i1)))] [.int (((itr (fun _ s => leadI ch m s) i1 (crs1 ch m ma)).1.2.2.2.2.1) + nI 1 - ((itr (fun _ s => leadI ch m s) i1 (crs1 ch m ma)).1.2.2.2.2.2)), .ref c] (hs (hs (hs (putT h u ((itr (fun _ s => leadI ch m s) i1 (crs1 ch m ma)).1)) c (oB 0 [.ref (c + 1), .ref (c + 2), .int (nI m), .int ld, .int rw_, .int fr, .int (homeI (crs1 ch m ma).1.1)])) (c + 2) (aI 6 ((itr (fun _ s => leadI ch m s) i1 (crs1 ch m ma)).2))) c (oB 0 [.ref (c + 1), .ref (c + 2), .int (nI m), .int (nI (1 + i1)), .int rw_, .int fr, .int (homeI (crs1 ch m ma).1.1)])) n 0 0
      refine g_putI hX dX0_measureCourse_61 fl_X0_22 (hs_eq _ _ _) (Nat.le_of_ble_eq_true rfl) ?_
      refine g_cg rfl hs_hs ?_
      show GW X 64 [some (.ref c), some (.ref u), some (.int (nI (1 + i1)))] [] (hs (hs (hs (putT h u ((itr (fun _ s => leadI ch m s) i1 (crs1 ch m ma)).1)) c (oB 0 [.ref (c + 1), .ref (c + 2), .int (nI m), .int ld, .int rw_, .int fr, .int (homeI (crs1 ch m ma).1.1)])) (c + 2) (aI 6 ((itr (fun _ s => leadI ch m s) i1 (crs1 ch m ma)).2))) c (oB 0 [.ref (c + 1), .ref (c + 2), .int (nI m), .int (nI (1 + i1)), .int (((itr (fun _ s => leadI ch m s) i1 (crs1 ch m ma)).1.2.2.2.2.1) + nI 1 - ((itr (fun _ s => leadI ch m s) i1 (crs1 ch m ma)).1.2.2.2.2.2)), .int fr, .int (homeI (crs1 ch m ma).1.1)])) n 0 0
      refine g_aload_n hX dX0_measureCourse_64 rfl rfl ?_
      refine g_aload_n hX dX0_measureCourse_65 rfl rfl ?_
      refine g_callV (As := []) hX dX0_measureCourse_66 cb_X1_falseRows ml_X0_57 im_X1_falseRows se_X1_falseRows rfl rfl ((hs_ne (by omega)).trans ((hs_ne (by omega)).trans ((hs_ne (by omega)).trans (putT_0)))) ⟨_, rfl, rfl⟩ (kX1_falseRows hst ((hs_ne (by omega)).trans ((hs_ne (by omega)).trans ((hs_ne (by omega)).trans (putT_0)))) ((hs_ne (by omega)).trans ((hs_ne (by omega)).trans ((hs_ne (by omega)).trans (putT_1)))) (leads_ok hch hv1 5 _ (by omega))) (Nat.le_of_ble_eq_true rfl) (Nat.le_of_ble_eq_true rfl) (by omega) (by omega) (Nat.le_of_ble_eq_true rfl) GX.no (pq ?_)
      show GW X 69 [some (.ref c), some (.ref u), some (.int (nI (1 + i1)))] [.int (frI ((itr (fun _ s => leadI ch m s) i1 (crs1 ch m ma)).1.1) ((itr (fun _ s => leadI ch m s) i1 (crs1 ch m ma)).1.2.2.2.2.1) ((itr (fun _ s => leadI ch m s) i1 (crs1 ch m ma)).1.2.2.2.2.2)), .ref c] (hs (hs (hs (putT h u ((itr (fun _ s => leadI ch m s) i1 (crs1 ch m ma)).1)) c (oB 0 [.ref (c + 1), .ref (c + 2), .int (nI m), .int ld, .int rw_, .int fr, .int (homeI (crs1 ch m ma).1.1)])) (c + 2) (aI 6 ((itr (fun _ s => leadI ch m s) i1 (crs1 ch m ma)).2))) c (oB 0 [.ref (c + 1), .ref (c + 2), .int (nI m), .int (nI (1 + i1)), .int (((itr (fun _ s => leadI ch m s) i1 (crs1 ch m ma)).1.2.2.2.2.1) + nI 1 - ((itr (fun _ s => leadI ch m s) i1 (crs1 ch m ma)).1.2.2.2.2.2)), .int fr, .int (homeI (crs1 ch m ma).1.1)])) n 0 0
      refine g_putI hX dX0_measureCourse_69 fl_X0_60 (hs_eq _ _ _) (Nat.le_of_ble_eq_true rfl) ?_
      refine g_cg rfl hs_hs ?_
      show GW X 72 [some (.ref c), some (.ref u), some (.int (nI (1 + i1)))] [] (hs (hs (hs (putT h u ((itr (fun _ s => leadI ch m s) i1 (crs1 ch m ma)).1)) c (oB 0 [.ref (c + 1), .ref (c + 2), .int (nI m), .int ld, .int rw_, .int fr, .int (homeI (crs1 ch m ma).1.1)])) (c + 2) (aI 6 ((itr (fun _ s => leadI ch m s) i1 (crs1 ch m ma)).2))) c (oB 0 [.ref (c + 1), .ref (c + 2), .int (nI m), .int (nI (1 + i1)), .int (((itr (fun _ s => leadI ch m s) i1 (crs1 ch m ma)).1.2.2.2.2.1) + nI 1 - ((itr (fun _ s => leadI ch m s) i1 (crs1 ch m ma)).1.2.2.2.2.2)), .int (frI ((itr (fun _ s => leadI ch m s) i1 (crs1 ch m ma)).1.1) ((itr (fun _ s => leadI ch m s) i1 (crs1 ch m ma)).1.2.2.2.2.1) ((itr (fun _ s => leadI ch m s) i1 (crs1 ch m ma)).1.2.2.2.2.2)), .int (homeI (crs1 ch m ma).1.1)])) n 0 0
      refine g_return hX hr dX0_measureCourse_72 (Nat.le_refl _) (Nat.le_refl _)  ?_
      exact ⟨rfl, Eq.trans (by first | (rw [hs_cm (k := c) (j := c + 2) _ _ _ (by omega), hs_hs (k := c)]; done) | (rw [hs_cm (k := c) (j := c + 2) _ _ _ (by omega), hs_hs (k := c)]; rfl)) (by rw [hR]), rfl⟩
    · refine g_aload_n hX dX0_measureCourse_40 rfl rfl ?_
      refine g_aload_n hX dX0_measureCourse_41 rfl rfl ?_
      refine g_callV (As := [.ref u]) hX dX0_measureCourse_42 cb_X0_goThroughLead ml_X0_42 im_X0_goThroughLead se_X0_goThroughLead rfl rfl ((hs_ne (by omega)).trans (hs_eq _ _ _)) ⟨_, rfl, rfl⟩ (kX0_goThroughLead hst ((hs_ne (by omega)).trans ((hs_ne (by omega)).trans (putT_0))) ((hs_ne (by omega)).trans ((hs_ne (by omega)).trans (putT_1))) ((hs_ne (by omega)).trans ((hs_ne (by omega)).trans (putT_2))) ((hs_ne (by omega)).trans ((hs_ne (by omega)).trans (putT_3))) ((hs_ne (by omega)).trans ((hs_ne (by omega)).trans (putT_4))) ((hs_ne (by omega)).trans (hs_eq _ _ _)) ((hs_ne (by omega)).trans ((hs_ne (by omega)).trans ((putT_ne (by omega)).trans (g1)))) (hs_eq _ _ _) (by omega) (by omega) (hch) (leads_ok hch hv1 5 _ (by omega))) (Nat.le_of_ble_eq_true rfl) (Nat.le_of_ble_eq_true rfl) (by omega) (by omega) (Nat.le_of_ble_eq_true rfl) GX.no (pq ?_)
      show GW X 45 [some (.ref c), some (.ref u), some (.int (nI (1 + i1)))] [] (hs (putT (hs (hs (putT h u ((itr (fun _ s => leadI ch m s) i1 (crs1 ch m ma)).1)) c (oB 0 [.ref (c + 1), .ref (c + 2), .int (nI m), .int ld, .int rw_, .int fr, .int (homeI (crs1 ch m ma).1.1)])) (c + 2) (aI 6 ((itr (fun _ s => leadI ch m s) i1 (crs1 ch m ma)).2))) u ((leadI ch m ((itr (fun _ s => leadI ch m s) i1 (crs1 ch m ma)).1, (itr (fun _ s => leadI ch m s) i1 (crs1 ch m ma)).2)).1)) (c + 2) (aI 6 ((leadI ch m ((itr (fun _ s => leadI ch m s) i1 (crs1 ch m ma)).1, (itr (fun _ s => leadI ch m s) i1 (crs1 ch m ma)).2)).2))) n 0 0
      refine g_cg (h' := (hs (hs (putT h u ((leadI ch m ((itr (fun _ s => leadI ch m s) i1 (crs1 ch m ma)).1, (itr (fun _ s => leadI ch m s) i1 (crs1 ch m ma)).2)).1)) c (oB 0 [.ref (c + 1), .ref (c + 2), .int (nI m), .int ld, .int rw_, .int fr, .int (homeI (crs1 ch m ma).1.1)])) (c + 2) (aI 6 ((leadI ch m ((itr (fun _ s => leadI ch m s) i1 (crs1 ch m ma)).1, (itr (fun _ s => leadI ch m s) i1 (crs1 ch m ma)).2)).2)))) rfl (by rw [putT_hi (k := c + 2) (u := u) (by omega), putT_hi (k := c) (u := u) (by omega), putT_putT (u := u), hs_hs (k := c + 2)]) ?_
      refine g_iinc (v := (nI ((1 + i1) + 1))) hX dX0_measureCourse_45 rfl rfl (gn_inc _ _) ?_
      refine g_goto (tgt := 27) hX dX0_measureCourse_48 (by decide) ?_
      refine g_cv (ihi1 (by rw [Ii1]; exact crs_step hi1 c3)) (by first | rfl | (congr 5; omega)) rfl
  · intro IN4
    refine g_iload_n hX dX0_measureCourse_27 rfl rfl ?_
    refine g_bipush (v := (nI 6)) hX dX0_measureCourse_28 (by decide) ?_
    refine g_icmp_geN (tgt := 51) hX dX0_measureCourse_30 (by decide) (by omega) (fun c5 => ?_) (fun c5 => absurd c5 (by omega))
    have hR : crsI ch m ma = (1 + 5, (itr (fun _ s => leadI ch m s) 5 (crs1 ch m ma))) := IN4
    refine g_aload_n hX dX0_measureCourse_51 rfl rfl ?_
    refine g_iload_n hX dX0_measureCourse_52 rfl rfl ?_
    refine g_putI hX dX0_measureCourse_53 fl_X0_18 ((hs_ne (by omega)).trans (hs_eq _ _ _)) (Nat.le_of_ble_eq_true rfl) ?_
    show GW X 56 [some (.ref c), some (.ref u), some (.int (nI (1 + 5)))] [] (hs (hs (hs (putT h u ((itr (fun _ s => leadI ch m s) 5 (crs1 ch m ma)).1)) c (oB 0 [.ref (c + 1), .ref (c + 2), .int (nI m), .int ld, .int rw_, .int fr, .int (homeI (crs1 ch m ma).1.1)])) (c + 2) (aI 6 ((itr (fun _ s => leadI ch m s) 5 (crs1 ch m ma)).2))) c (oB 0 [.ref (c + 1), .ref (c + 2), .int (nI m), .int (nI (1 + 5)), .int rw_, .int fr, .int (homeI (crs1 ch m ma).1.1)])) n 0 0
    refine g_aload_n hX dX0_measureCourse_56 rfl rfl ?_
    refine g_aload_n hX dX0_measureCourse_57 rfl rfl ?_
    refine g_callV (As := []) hX dX0_measureCourse_58 cb_X1_differentRows ml_X0_54 im_X1_differentRows se_X1_differentRows rfl rfl ((hs_ne (by omega)).trans ((hs_ne (by omega)).trans ((hs_ne (by omega)).trans (putT_0)))) ⟨_, rfl, rfl⟩ (kX1_differentRows hst ((hs_ne (by omega)).trans ((hs_ne (by omega)).trans ((hs_ne (by omega)).trans (putT_0)))) ) (Nat.le_of_ble_eq_true rfl) (Nat.le_of_ble_eq_true rfl) (by omega) (by omega) (Nat.le_of_ble_eq_true rfl) GX.no (pq ?_)
    show GW X 61 [some (.ref c), some (.ref u), some (.int (nI (1 + 5)))] [.int (((itr (fun _ s => leadI ch m s) 5 (crs1 ch m ma)).1.2.2.2.2.1) + nI 1 - ((itr (fun _ s => leadI ch m s) 5 (crs1 ch m ma)).1.2.2.2.2.2)), .ref c] (hs (hs (hs (putT h u ((itr (fun _ s => leadI ch m s) 5 (crs1 ch m ma)).1)) c (oB 0 [.ref (c + 1), .ref (c + 2), .int (nI m), .int ld, .int rw_, .int fr, .int (homeI (crs1 ch m ma).1.1)])) (c + 2) (aI 6 ((itr (fun _ s => leadI ch m s) 5 (crs1 ch m ma)).2))) c (oB 0 [.ref (c + 1), .ref (c + 2), .int (nI m), .int (nI (1 + 5)), .int rw_, .int fr, .int (homeI (crs1 ch m ma).1.1)])) n 0 0
    refine g_putI hX dX0_measureCourse_61 fl_X0_22 (hs_eq _ _ _) (Nat.le_of_ble_eq_true rfl) ?_
    refine g_cg rfl hs_hs ?_
    show GW X 64 [some (.ref c), some (.ref u), some (.int (nI (1 + 5)))] [] (hs (hs (hs (putT h u ((itr (fun _ s => leadI ch m s) 5 (crs1 ch m ma)).1)) c (oB 0 [.ref (c + 1), .ref (c + 2), .int (nI m), .int ld, .int rw_, .int fr, .int (homeI (crs1 ch m ma).1.1)])) (c + 2) (aI 6 ((itr (fun _ s => leadI ch m s) 5 (crs1 ch m ma)).2))) c (oB 0 [.ref (c + 1), .ref (c + 2), .int (nI m), .int (nI (1 + 5)), .int (((itr (fun _ s => leadI ch m s) 5 (crs1 ch m ma)).1.2.2.2.2.1) + nI 1 - ((itr (fun _ s => leadI ch m s) 5 (crs1 ch m ma)).1.2.2.2.2.2)), .int fr, .int (homeI (crs1 ch m ma).1.1)])) n 0 0
    refine g_aload_n hX dX0_measureCourse_64 rfl rfl ?_
    refine g_aload_n hX dX0_measureCourse_65 rfl rfl ?_
    refine g_callV (As := []) hX dX0_measureCourse_66 cb_X1_falseRows ml_X0_57 im_X1_falseRows se_X1_falseRows rfl rfl ((hs_ne (by omega)).trans ((hs_ne (by omega)).trans ((hs_ne (by omega)).trans (putT_0)))) ⟨_, rfl, rfl⟩ (kX1_falseRows hst ((hs_ne (by omega)).trans ((hs_ne (by omega)).trans ((hs_ne (by omega)).trans (putT_0)))) ((hs_ne (by omega)).trans ((hs_ne (by omega)).trans ((hs_ne (by omega)).trans (putT_1)))) (leads_ok hch hv1 5 _ (by omega))) (Nat.le_of_ble_eq_true rfl) (Nat.le_of_ble_eq_true rfl) (by omega) (by omega) (Nat.le_of_ble_eq_true rfl) GX.no (pq ?_)
    show GW X 69 [some (.ref c), some (.ref u), some (.int (nI (1 + 5)))] [.int (frI ((itr (fun _ s => leadI ch m s) 5 (crs1 ch m ma)).1.1) ((itr (fun _ s => leadI ch m s) 5 (crs1 ch m ma)).1.2.2.2.2.1) ((itr (fun _ s => leadI ch m s) 5 (crs1 ch m ma)).1.2.2.2.2.2)), .ref c] (hs (hs (hs (putT h u ((itr (fun _ s => leadI ch m s) 5 (crs1 ch m ma)).1)) c (oB 0 [.ref (c + 1), .ref (c + 2), .int (nI m), .int ld, .int rw_, .int fr, .int (homeI (crs1 ch m ma).1.1)])) (c + 2) (aI 6 ((itr (fun _ s => leadI ch m s) 5 (crs1 ch m ma)).2))) c (oB 0 [.ref (c + 1), .ref (c + 2), .int (nI m), .int (nI (1 + 5)), .int (((itr (fun _ s => leadI ch m s) 5 (crs1 ch m ma)).1.2.2.2.2.1) + nI 1 - ((itr (fun _ s => leadI ch m s) 5 (crs1 ch m ma)).1.2.2.2.2.2)), .int fr, .int (homeI (crs1 ch m ma).1.1)])) n 0 0
    refine g_putI hX dX0_measureCourse_69 fl_X0_60 (hs_eq _ _ _) (Nat.le_of_ble_eq_true rfl) ?_
    refine g_cg rfl hs_hs ?_
    show GW X 72 [some (.ref c), some (.ref u), some (.int (nI (1 + 5)))] [] (hs (hs (hs (putT h u ((itr (fun _ s => leadI ch m s) 5 (crs1 ch m ma)).1)) c (oB 0 [.ref (c + 1), .ref (c + 2), .int (nI m), .int ld, .int rw_, .int fr, .int (homeI (crs1 ch m ma).1.1)])) (c + 2) (aI 6 ((itr (fun _ s => leadI ch m s) 5 (crs1 ch m ma)).2))) c (oB 0 [.ref (c + 1), .ref (c + 2), .int (nI m), .int (nI (1 + 5)), .int (((itr (fun _ s => leadI ch m s) 5 (crs1 ch m ma)).1.2.2.2.2.1) + nI 1 - ((itr (fun _ s => leadI ch m s) 5 (crs1 ch m ma)).1.2.2.2.2.2)), .int (frI ((itr (fun _ s => leadI ch m s) 5 (crs1 ch m ma)).1.1) ((itr (fun _ s => leadI ch m s) 5 (crs1 ch m ma)).1.2.2.2.2.1) ((itr (fun _ s => leadI ch m s) 5 (crs1 ch m ma)).1.2.2.2.2.2)), .int (homeI (crs1 ch m ma).1.1)])) n 0 0
    refine g_return hX hr dX0_measureCourse_72 (Nat.le_refl _) (Nat.le_refl _)  ?_
    exact ⟨rfl, Eq.trans (by first | (rw [hs_cm (k := c) (j := c + 2) _ _ _ (by omega), hs_hs (k := c)]; done) | (rw [hs_cm (k := c) (j := c + 2) _ _ _ (by omega), hs_hs (k := c)]; rfl)) (by rw [hR]), rfl⟩
