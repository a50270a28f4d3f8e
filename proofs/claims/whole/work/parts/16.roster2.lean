set_option maxRecDepth 20000 in
theorem kX3_add_m {l : Launch} {K : gw_K} (hst : l.stackTraces = false) {rc mc n : Nat} {dy tch frs : Int32} {h : gw_H} {a b : Int32} (r0 : h 0 = (oB 3 [.ref 1, .ref 10, .ref 19, .ref 24, .int (nI mc), .int tch, .int frs])) (f0 : h 1 = (oB 2 [.ref (1 + 1), .ref (1 + 2), .ref (1 + 3), .ref (1 + 4), .ref (1 + 5), .ref (1 + 6), .ref (1 + 7), .ref (1 + 8), .int (nI rc), .int dy])) (hz : a < 0 ∨ nI mc ≤ a) : Ctr l K mX3_add [.ref 0, .int a, .int b] h n 1 6 (fun _ _ _ => False) (PXQ "java/lang/IndexOutOfBoundsException" h n) := by
  refine Ctr.of hst pn_X3_add (Nat.le_of_ble_eq_true rfl) (fun X hX hr hE => ?_)
  have hX : FX l K X cX3_add RX3 8 132 1 6 := hX
  show GW X 0 [some (.ref 0), some (.int a), some (.int b), none] [] h n 0 0
  refine g_aload_n hX dX3_add_0 rfl rfl ?_
  refine g_iload_n hX dX3_add_1 rfl rfl ?_
  refine g_callV (As := [.int a]) hX dX3_add_2 cb_X3_listNumbered ml_X3_115 im_X3_listNumbered se_X3_listNumbered rfl rfl (r0) ⟨_, rfl, rfl⟩ (kX3_listNumbered_b hst (r0) (f0) (hz)) (Nat.le_of_ble_eq_true rfl) (Nat.le_of_ble_eq_true rfl) (by omega) (by omega) (Nat.le_of_ble_eq_true rfl) ?_ ?_
  · refine px ?_
    refine g_out hX hr hE.1 (by omega) (by omega) ?_
    exact ⟨rfl, rfl, rfl⟩
  · exact fun _ _ _ _ h => h.elim
set_option maxRecDepth 20000 in
theorem kX3_add_c {l : Launch} {K : gw_K} (hst : l.stackTraces = false) {rc mc n : Nat} {dy tch frs : Int32} {h : gw_H} {c m : Nat} {ld rw_ fr ho : Int32} {ch dg : Nat → Int32} {k : Nat} {b : Int32} (r0 : h 0 = (oB 3 [.ref 1, .ref 10, .ref 19, .ref 24, .int (nI mc), .int tch, .int frs])) (f0 : h 1 = (oB 2 [.ref (1 + 1), .ref (1 + 2), .ref (1 + 3), .ref (1 + 4), .ref (1 + 5), .ref (1 + 6), .ref (1 + 7), .ref (1 + 8), .int (nI rc), .int dy])) (l0 : h c = (oB 0 [.ref (c + 1), .ref (c + 2), .int (nI m), .int ld, .int rw_, .int fr, .int ho])) (l1 : h (c + 1) = (aI 12 ch)) (l2 : h (c + 2) = (aI 6 dg)) (la : h 24 = (aQ 5 lsF)) (hk : k < mc) (hm5 : mc ≤ 5) (hck : c = 25 + 3 * k) (hm12 : m ≤ 12) (hz : b < nI 0 ∨ nI 31 < b) : Ctr l K mX3_add [.ref 0, .int (nI k), .int b] h n 1 6 (fun _ _ _ => False) (PXQ "java/lang/IllegalArgumentException" h n) := by
  refine Ctr.of hst pn_X3_add (Nat.le_of_ble_eq_true rfl) (fun X hX hr hE => ?_)
  have hX : FX l K X cX3_add RX3 8 132 1 6 := hX
  show GW X 0 [some (.ref 0), some (.int (nI k)), some (.int b), none] [] h n 0 0
  refine g_aload_n hX dX3_add_0 rfl rfl ?_
  refine g_iload_n hX dX3_add_1 rfl rfl ?_
  refine g_callV (As := [.int (nI k)]) hX dX3_add_2 cb_X3_listNumbered ml_X3_115 im_X3_listNumbered se_X3_listNumbered rfl rfl (r0) ⟨_, rfl, rfl⟩ (kX3_listNumbered hst (r0) (la) (by omega) (by omega) (hck)) (Nat.le_of_ble_eq_true rfl) (Nat.le_of_ble_eq_true rfl) (by omega) (by omega) (Nat.le_of_ble_eq_true rfl) GX.no (pq ?_)
  show GW X 5 [some (.ref 0), some (.int (nI k)), some (.int b), none] [.ref c] h n 0 0
  refine g_astore_n (i := 3) hX dX3_add_5 rfl (Nat.le_of_ble_eq_true rfl) rfl ?_
  refine g_iload_n hX dX3_add_6 rfl rfl ?_
  refine g_iconst (v := (nI 0)) hX dX3_add_7 (by decide) ?_
  refine g_bipush (v := (nI 31)) hX dX3_add_8 (by decide) ?_
  refine g_callS (As := [.int b, .int (nI 0), .int (nI 31)]) hX dX3_add_10 cb_X3_requireWithin ml_X3_37 st_X3_requireWithin rfl rfl (kX3_requireWithin_x hst (hz)) (Nat.le_of_ble_eq_true rfl) (Nat.le_of_ble_eq_true rfl) (by omega) (by omega) (Nat.le_of_ble_eq_true rfl) ?_ ?_
  · refine px ?_
    refine g_out hX hr hE.1 (by omega) (by omega) ?_
    exact ⟨rfl, rfl, rfl⟩
  · exact fun _ _ _ _ h => h.elim
set_option maxRecDepth 20000 in
theorem kX3_add {l : Launch} {K : gw_K} (hst : l.stackTraces = false) {rc mc n : Nat} {dy tch frs : Int32} {h : gw_H} {orc : Nat} {ody : Int32} {owd osk ovt oti ofa otf ost ows : Nat → Int32} {pl mv ma : Nat → Int32} {sn : Nat → Int64} {cm rr : Int32} {c m : Nat} {ld rw_ fr ho : Int32} {ch dg : Nat → Int32} {k q : Nat} (r0 : h 0 = (oB 3 [.ref 1, .ref 10, .ref 19, .ref 24, .int (nI mc), .int tch, .int frs])) (f0 : h 1 = (oB 2 [.ref (1 + 1), .ref (1 + 2), .ref (1 + 3), .ref (1 + 4), .ref (1 + 5), .ref (1 + 6), .ref (1 + 7), .ref (1 + 8), .int (nI rc), .int dy])) (o0 : h 10 = (oB 2 [.ref (10 + 1), .ref (10 + 2), .ref (10 + 3), .ref (10 + 4), .ref (10 + 5), .ref (10 + 6), .ref (10 + 7), .ref (10 + 8), .int (nI orc), .int ody])) (owd : h (10 + 1) = (aI 20 owd)) (osk : h (10 + 2) = (aI 20 osk)) (ovt : h (10 + 3) = (aI 20 ovt)) (oti : h (10 + 4) = (aI 20 oti)) (ofa : h (10 + 5) = (aI 20 ofa)) (otf : h (10 + 6) = (aI 20 otf)) (ost : h (10 + 7) = (aI 20 ost)) (ows : h (10 + 8) = (aI 18 ows)) (g0 : h 19 = (oB 1 [.ref (19 + 1), .ref (19 + 2), .ref (19 + 3), .ref (19 + 4), .int cm, .int rr])) (g1 : h (19 + 1) = (aI 6 pl)) (g2 : h (19 + 2) = (aI 6 mv)) (g3 : h (19 + 3) = (aI 6 ma)) (g4 : h (19 + 4) = (aJ 122 sn)) (l0 : h c = (oB 0 [.ref (c + 1), .ref (c + 2), .int (nI m), .int ld, .int rw_, .int fr, .int ho])) (l1 : h (c + 1) = (aI 12 ch)) (l2 : h (c + 2) = (aI 6 dg)) (la : h 24 = (aQ 5 lsF)) (hk : k < mc) (hm5 : mc ≤ 5) (hck : c = 25 + 3 * k) (hm12 : m ≤ 12) (hq : q < 32) (hch : ∀ i, i < m → vchg (ch i)) : Ctr l K mX3_add [.ref 0, .int (nI k), .int (nI q)] h n 1 6 (fun rv h' n' => (q &&& (q >>> 1) = 0 ∧ m < 12) ∧ PS (some (.int (nI (m + 1)))) (hs (hs (hs h c (oB 0 [.ref (c + 1), .ref (c + 2), .int (nI (m + 1)), .int (nI (crsI (upd ch m (nI q)) (m + 1) ma).1), .int ((crsI (upd ch m (nI q)) (m + 1) ma).2.1.2.2.2.2.1 + nI 1 - (crsI (upd ch m (nI q)) (m + 1) ma).2.1.2.2.2.2.2), .int (frI (crsI (upd ch m (nI q)) (m + 1) ma).2.1.1 (crsI (upd ch m (nI q)) (m + 1) ma).2.1.2.2.2.2.1 (crsI (upd ch m (nI q)) (m + 1) ma).2.1.2.2.2.2.2), .int (homeI (crs1 (upd ch m (nI q)) (m + 1) ma).1.1)])) (c + 1) (aI 12 (upd ch m (nI q)))) (c + 2) (aI 6 ((crsI (upd ch m (nI q)) (m + 1) ma).2.2))) n rv h' n') (fun E h' n' => ((¬ q &&& (q >>> 1) = 0 ∧ E = "java/lang/IllegalArgumentException") ∨ (q &&& (q >>> 1) = 0 ∧ m = 12 ∧ E = "java/lang/IllegalStateException")) ∧ h' = h ∧ n' = n) := by
  refine Ctr.of hst pn_X3_add (Nat.le_of_ble_eq_true rfl) (fun X hX hr hE => ?_)
  have hX : FX l K X cX3_add RX3 8 132 1 6 := hX
  show GW X 0 [some (.ref 0), some (.int (nI k)), some (.int (nI q)), none] [] h n 0 0
  refine g_aload_n hX dX3_add_0 rfl rfl ?_
  refine g_iload_n hX dX3_add_1 rfl rfl ?_
  refine g_callV (As := [.int (nI k)]) hX dX3_add_2 cb_X3_listNumbered ml_X3_115 im_X3_listNumbered se_X3_listNumbered rfl rfl (r0) ⟨_, rfl, rfl⟩ (kX3_listNumbered hst (r0) (la) (by omega) (by omega) (hck)) (Nat.le_of_ble_eq_true rfl) (Nat.le_of_ble_eq_true rfl) (by omega) (by omega) (Nat.le_of_ble_eq_true rfl) GX.no (pq ?_)
  show GW X 5 [some (.ref 0), some (.int (nI k)), some (.int (nI q)), none] [.ref c] h n 0 0
  refine g_astore_n (i := 3) hX dX3_add_5 rfl (Nat.le_of_ble_eq_true rfl) rfl ?_
  refine g_iload_n hX dX3_add_6 rfl rfl ?_
  refine g_iconst (v := (nI 0)) hX dX3_add_7 (by decide) ?_
  refine g_bipush (v := (nI 31)) hX dX3_add_8 (by decide) ?_
  refine g_callS (As := [.int (nI q), .int (nI 0), .int (nI 31)]) hX dX3_add_10 cb_X3_requireWithin ml_X3_37 st_X3_requireWithin rfl rfl (kX3_requireWithin hst (gn_okW (by omega) (by omega) (by omega))) (Nat.le_of_ble_eq_true rfl) (Nat.le_of_ble_eq_true rfl) (by omega) (by omega) (Nat.le_of_ble_eq_true rfl) GX.no (pq ?_)
  show GW X 13 [some (.ref 0), some (.int (nI k)), some (.int (nI q)), some (.ref c)] [] h n 0 0
  refine g_iload_n hX dX3_add_13 rfl rfl ?_
  refine g_iload_n hX dX3_add_14 rfl rfl ?_
  refine g_iconst (v := (nI 1)) hX dX3_add_15 (by decide) ?_
  refine g_ishr hX dX3_add_16 ?_
  refine g_iand hX dX3_add_17 ?_
  refine g_if_eq (tgt := 31) hX dX3_add_18 (by decide) (fun c1 => ?_) (fun c1 => ?_)
  · refine g_aload_n hX dX3_add_31 rfl rfl ?_
    refine g_getf hX dX3_add_32 fl_X3_124 (l0) rfl ?_
    refine g_bipush (v := (nI 12)) hX dX3_add_35 (by decide) ?_
    refine g_icmp_ltN (tgt := 50) hX dX3_add_37 (by decide) (by omega) (fun c2 => ?_) (fun c2 => ?_)
    · have hq0 := (chg_dec q hq).mp c1
      have hch2 := upd_chg hch (v := nI q) ⟨q, hq, rfl, hq0⟩
      refine g_aload_n hX dX3_add_50 rfl rfl ?_
      refine g_iload_n hX dX3_add_51 rfl rfl ?_
      refine g_callV (As := [.int (nI q)]) hX dX3_add_52 cb_X0_append ml_X3_129 im_X0_append se_X0_append rfl rfl (l0) ⟨_, rfl, rfl⟩ (kX0_append hst (l0) (l1) (by omega)) (Nat.le_of_ble_eq_true rfl) (Nat.le_of_ble_eq_true rfl) (by omega) (by omega) (Nat.le_of_ble_eq_true rfl) GX.no (pq ?_)
      show GW X 55 [some (.ref 0), some (.int (nI k)), some (.int (nI q)), some (.ref c)] [] (hs (hs h c (oB 0 [.ref (c + 1), .ref (c + 2), .int (nI (m + 1)), .int ld, .int rw_, .int fr, .int ho])) (c + 1) (aI 12 (upd ch m (nI q)))) n 0 0
      refine g_aload_n hX dX3_add_55 rfl rfl ?_
      refine g_aload_n hX dX3_add_56 rfl rfl ?_
      refine g_getf hX dX3_add_57 fl_X3_22 ((hs_ne (by omega)).trans ((hs_ne (by omega)).trans (r0))) rfl ?_
      refine g_callV (As := [.ref 19]) hX dX3_add_60 cb_X0_measureCourse ml_X3_132 im_X0_measureCourse se_X0_measureCourse rfl rfl ((hs_ne (by omega)).trans (hs_eq _ _ _)) ⟨_, rfl, rfl⟩ (kX0_measureCourse hst ((hs_ne (by omega)).trans ((hs_ne (by omega)).trans (g0))) ((hs_ne (by omega)).trans ((hs_ne (by omega)).trans (g1))) ((hs_ne (by omega)).trans ((hs_ne (by omega)).trans (g2))) ((hs_ne (by omega)).trans ((hs_ne (by omega)).trans (g3))) ((hs_ne (by omega)).trans ((hs_ne (by omega)).trans (g4))) ((hs_ne (by omega)).trans (hs_eq _ _ _)) (hs_eq _ _ _) ((hs_ne (by omega)).trans ((hs_ne (by omega)).trans (l2))) (by omega) (by omega) (hch2)) (Nat.le_of_ble_eq_true rfl) (Nat.le_of_ble_eq_true rfl) (by omega) (by omega) (Nat.le_of_ble_eq_true rfl) GX.no (pq ?_)
      show GW X 63 [some (.ref 0), some (.int (nI k)), some (.int (nI q)), some (.ref c)] [] (hs (hs (putT (hs (hs h c (oB 0 [.ref (c + 1), .ref (c + 2), .int (nI (m + 1)), .int ld, .int rw_, .int fr, .int ho])) (c + 1) (aI 12 (upd ch m (nI q)))) 19 ((crsI (upd ch m (nI q)) (m + 1) ma).2.1)) c (oB 0 [.ref (c + 1), .ref (c + 2), .int (nI (m + 1)), .int (nI (crsI (upd ch m (nI q)) (m + 1) ma).1), .int ((crsI (upd ch m (nI q)) (m + 1) ma).2.1.2.2.2.2.1 + nI 1 - (crsI (upd ch m (nI q)) (m + 1) ma).2.1.2.2.2.2.2), .int (frI (crsI (upd ch m (nI q)) (m + 1) ma).2.1.1 (crsI (upd ch m (nI q)) (m + 1) ma).2.1.2.2.2.2.1 (crsI (upd ch m (nI q)) (m + 1) ma).2.1.2.2.2.2.2), .int (homeI (crs1 (upd ch m (nI q)) (m + 1) ma).1.1)])) (c + 2) (aI 6 ((crsI (upd ch m (nI q)) (m + 1) ma).2.2))) n 0 0
      refine g_cg (h' := (hs (hs (hs (putT h 19 ((crsI (upd ch m (nI q)) (m + 1) ma).2.1)) c (oB 0 [.ref (c + 1), .ref (c + 2), .int (nI (m + 1)), .int (nI (crsI (upd ch m (nI q)) (m + 1) ma).1), .int ((crsI (upd ch m (nI q)) (m + 1) ma).2.1.2.2.2.2.1 + nI 1 - (crsI (upd ch m (nI q)) (m + 1) ma).2.1.2.2.2.2.2), .int (frI (crsI (upd ch m (nI q)) (m + 1) ma).2.1.1 (crsI (upd ch m (nI q)) (m + 1) ma).2.1.2.2.2.2.1 (crsI (upd ch m (nI q)) (m + 1) ma).2.1.2.2.2.2.2), .int (homeI (crs1 (upd ch m (nI q)) (m + 1) ma).1.1)])) (c + 1) (aI 12 (upd ch m (nI q)))) (c + 2) (aI 6 ((crsI (upd ch m (nI q)) (m + 1) ma).2.2)))) rfl (by rw [putT_hi (k := c + 1) (u := 19) (by omega), putT_hi (k := c) (u := 19) (by omega), hs_cm (k := c) (j := c + 1) _ _ _ (by omega), hs_hs (k := c)]) ?_
      refine g_aload_n hX dX3_add_63 rfl rfl ?_
      refine g_getf hX dX3_add_64 fl_X3_124 ((hs_ne (by omega)).trans ((hs_ne (by omega)).trans (hs_eq _ _ _))) rfl ?_
      refine g_ireturn hX hr dX3_add_67 (by omega) (by omega)  ?_
      exact ⟨⟨hq0, by omega⟩, rfl, rfl, fun j hj => hs_cgj (hs_cgj (hs_cgj ((putT_ne (by omega)).trans (rfl)))), ⟨_, _, _, _, _, _, _, _, _, _, ((hs_ne (by omega)).trans ((hs_ne (by omega)).trans ((hs_ne (by omega)).trans ((putT_ne (by omega)).trans (o0))))), ((hs_ne (by omega)).trans ((hs_ne (by omega)).trans ((hs_ne (by omega)).trans ((putT_ne (by omega)).trans (owd))))), ((hs_ne (by omega)).trans ((hs_ne (by omega)).trans ((hs_ne (by omega)).trans ((putT_ne (by omega)).trans (osk))))), ((hs_ne (by omega)).trans ((hs_ne (by omega)).trans ((hs_ne (by omega)).trans ((putT_ne (by omega)).trans (ovt))))), ((hs_ne (by omega)).trans ((hs_ne (by omega)).trans ((hs_ne (by omega)).trans ((putT_ne (by omega)).trans (oti))))), ((hs_ne (by omega)).trans ((hs_ne (by omega)).trans ((hs_ne (by omega)).trans ((putT_ne (by omega)).trans (ofa))))), ((hs_ne (by omega)).trans ((hs_ne (by omega)).trans ((hs_ne (by omega)).trans ((putT_ne (by omega)).trans (otf))))), ((hs_ne (by omega)).trans ((hs_ne (by omega)).trans ((hs_ne (by omega)).trans ((putT_ne (by omega)).trans (ost))))), ((hs_ne (by omega)).trans ((hs_ne (by omega)).trans ((hs_ne (by omega)).trans ((putT_ne (by omega)).trans (ows)))))⟩, ⟨_, _, _, _, _, _, ((hs_ne (by omega)).trans ((hs_ne (by omega)).trans ((hs_ne (by omega)).trans (putT_0)))), ((hs_ne (by omega)).trans ((hs_ne (by omega)).trans ((hs_ne (by omega)).trans (putT_1)))), ((hs_ne (by omega)).trans ((hs_ne (by omega)).trans ((hs_ne (by omega)).trans (putT_2)))), ((hs_ne (by omega)).trans ((hs_ne (by omega)).trans ((hs_ne (by omega)).trans (putT_3)))), ((hs_ne (by omega)).trans ((hs_ne (by omega)).trans ((hs_ne (by omega)).trans (putT_4))))⟩⟩
    · refine g_throwS hX hr hE.1 ts_45_127_49 dX3_add_40 dX3_add_43 dX3_add_44 dX3_add_46 dX3_add_49 (Nat.le_of_ble_eq_true rfl) (Nat.le_of_ble_eq_true rfl) (by omega) (by omega) ?_
      exact ⟨Or.inr ⟨(chg_dec q hq).mp c1, by omega, rfl⟩, rfl, rfl⟩
  · refine g_throwS hX hr hE.1 ts_119_121_123 dX3_add_21 dX3_add_24 dX3_add_25 dX3_add_27 dX3_add_30 (Nat.le_of_ble_eq_true rfl) (Nat.le_of_ble_eq_true rfl) (by omega) (by omega) ?_
    exact ⟨Or.inl ⟨fun z => c1 ((chg_dec q hq).mpr z), rfl⟩, rfl, rfl⟩
set_option maxRecDepth 20000 in
theorem kX3_canBeRung {l : Launch} {K : gw_K} (hst : l.stackTraces = false) {rc mc n : Nat} {dy tch frs : Int32} {h : gw_H} {st ti : Nat → Int32} {c m : Nat} {ld rw_ fr ho : Int32} {b : Nat} (l0 : h c = (oB 0 [.ref (c + 1), .ref (c + 2), .int (nI m), .int ld, .int rw_, .int fr, .int ho])) (r0 : h 0 = (oB 3 [.ref 1, .ref 10, .ref 19, .ref 24, .int (nI mc), .int tch, .int frs])) (f0 : h 1 = (oB 2 [.ref (1 + 1), .ref (1 + 2), .ref (1 + 3), .ref (1 + 4), .ref (1 + 5), .ref (1 + 6), .ref (1 + 7), .ref (1 + 8), .int (nI rc), .int dy])) (fst : h (1 + 7) = (aI 20 st)) (fti : h (1 + 4) = (aI 20 ti)) (hrc : rc ≤ 20) (hm12 : m ≤ 12) : Ctr l K mX3_canBeRung [.ref 0, .ref c, .int (nI b)] h n 0 0 (PQ (some (.int (if 0 < m ∧ freshI st ti rc (nI b) = nI 6 then nI 1 else nI 0))) h n) (PX0) := by
  refine Ctr.of hst pn_X3_canBeRung (Nat.le_of_ble_eq_true rfl) (fun X hX hr hE => ?_)
  have hX : FX l K X cX3_canBeRung RX3 3 65 0 0 := hX
  show GW X 0 [some (.ref 0), some (.ref c), some (.int (nI b))] [] h n 0 0
  skip
  refine g_aload_n hX dX3_canBeRung_0 rfl rfl ?_
  refine g_getf hX dX3_canBeRung_1 fl_X3_124 (l0) rfl ?_
  refine g_if_leN (tgt := 22) hX dX3_canBeRung_4 (by decide) (by omega) (fun c1 => ?_) (fun c1 => ?_)
  · refine g_iconst (v := (nI 0)) hX dX3_canBeRung_22 (by decide) ?_
    refine g_zreturn hX hr (by decide) dX3_canBeRung_23 (Nat.le_refl _) (Nat.le_refl _)  ?_
    exact ⟨by rw [if_neg (fun q => by have := q.1; omega)], rfl, rfl⟩
  · refine g_aload_n hX dX3_canBeRung_7 rfl rfl ?_
    refine g_getf hX dX3_canBeRung_8 fl_X3_12 (r0) rfl ?_
    refine g_iload_n hX dX3_canBeRung_11 rfl rfl ?_
    refine g_callV (As := [.int (nI b)]) hX dX3_canBeRung_12 cb_X2_isFresh ml_X3_234 im_X2_isFresh se_X2_isFresh rfl rfl (f0) ⟨_, rfl, rfl⟩ (kX2_isFresh hst (f0) (fst) (fti) (by omega)) (Nat.le_of_ble_eq_true rfl) (Nat.le_of_ble_eq_true rfl) (by omega) (by omega) (Nat.le_of_ble_eq_true rfl) GX.no (pq ?_)
    show GW X 15 [some (.ref 0), some (.ref c), some (.int (nI b))] [.int (if freshI st ti rc (nI b) = nI 6 then nI 1 else nI 0)] h n 0 0
    refine g_ifB_eq (tgt := 22) hX dX3_canBeRung_15 (by decide) (fun c2 => ?_) (fun c2 => ?_)
    · refine g_iconst (v := (nI 0)) hX dX3_canBeRung_22 (by decide) ?_
      refine g_zreturn hX hr (by decide) dX3_canBeRung_23 (Nat.le_refl _) (Nat.le_refl _)  ?_
      exact ⟨by rw [if_neg (fun q => c2 q.2)], rfl, rfl⟩
    · refine g_iconst (v := (nI 1)) hX dX3_canBeRung_18 (by decide) ?_
      refine g_goto (tgt := 23) hX dX3_canBeRung_19 (by decide) ?_
      refine g_zreturn hX hr (by decide) dX3_canBeRung_23 (Nat.le_refl _) (Nat.le_refl _)  ?_
      exact ⟨by rw [if_pos ⟨by omega, c2⟩], rfl, rfl⟩
set_option maxRecDepth 20000 in
theorem kX3_votesBrought {l : Launch} {K : gw_K} (hst : l.stackTraces = false) {rc mc n : Nat} {dy tch frs : Int32} {h : gw_H} {wd sk vt ti fa st ws : Nat → Int32} {orc : Nat} {ody : Int32} {owd osk ovt oti ofa otf ost ows : Nat → Int32} {pl mv ma : Nat → Int32} {sn : Nat → Int64} {cm rr : Int32} {c m L b : Nat} {ld rw_ fr ho : Int32} {ch : Nat → Int32} (l0 : h c = (oB 0 [.ref (c + 1), .ref (c + 2), .int (nI m), .int ld, .int rw_, .int fr, .int ho])) (l1 : h (c + 1) = aI 12 ch) (r0 : h 0 = (oB 3 [.ref 1, .ref 10, .ref 19, .ref 24, .int (nI mc), .int tch, .int frs])) (f0 : h 1 = (oB 2 [.ref (1 + 1), .ref (1 + 2), .ref (1 + 3), .ref (1 + 4), .ref (1 + 5), .ref (1 + 6), .ref (1 + 7), .ref (1 + 8), .int (nI rc), .int dy])) (fwd : h (1 + 1) = (aI 20 wd)) (fsk : h (1 + 2) = (aI 20 sk)) (fvt : h (1 + 3) = (aI 20 vt)) (fti : h (1 + 4) = (aI 20 ti)) (ffa : h (1 + 5) = (aI 20 fa)) (fst : h (1 + 7) = (aI 20 st)) (fws : h (1 + 8) = (aI 18 ws)) (o0 : h 10 = (oB 2 [.ref (10 + 1), .ref (10 + 2), .ref (10 + 3), .ref (10 + 4), .ref (10 + 5), .ref (10 + 6), .ref (10 + 7), .ref (10 + 8), .int (nI orc), .int ody])) (owd : h (10 + 1) = (aI 20 owd)) (osk : h (10 + 2) = (aI 20 osk)) (ovt : h (10 + 3) = (aI 20 ovt)) (oti : h (10 + 4) = (aI 20 oti)) (ofa : h (10 + 5) = (aI 20 ofa)) (otf : h (10 + 6) = (aI 20 otf)) (ost : h (10 + 7) = (aI 20 ost)) (ows : h (10 + 8) = (aI 18 ows)) (g0 : h 19 = (oB 1 [.ref (19 + 1), .ref (19 + 2), .ref (19 + 3), .ref (19 + 4), .int cm, .int rr])) (g1 : h (19 + 1) = (aI 6 pl)) (g2 : h (19 + 2) = (aI 6 mv)) (g3 : h (19 + 3) = (aI 6 ma)) (g4 : h (19 + 4) = (aJ 122 sn)) (hrc : rc ≤ 20) (hb3 : b < 3) (hc25 : 25 ≤ c) (hm12 : m ≤ 12) (hL12 : L ≤ 12) (hso : ∀ r, r < rc → seatOK (st r)) (hch : ∀ i, i < m → vchg (ch i)) : Ctr l K mX3_votesBrought [.ref 0, .int (nI b), .ref c, .int (nI L)] h n 0 0 (PS (some (.int (brought wd vt ws st sk ti fa ch ma rc b m L))) h n) (PX0) := by
  refine Ctr.of hst pn_X3_votesBrought (Nat.le_of_ble_eq_true rfl) (fun X hX hr hE => ?_)
  have hX : FX l K X cX3_votesBrought RX3 4 93 0 0 := hX
  show GW X 0 [some (.ref 0), some (.int (nI b)), some (.ref c), some (.int (nI L))] [] h n 0 0
  refine g_aload_n hX dX3_votesBrought_0 rfl rfl ?_
  refine g_aload_n hX dX3_votesBrought_1 rfl rfl ?_
  refine g_iload_n hX dX3_votesBrought_2 rfl rfl ?_
  refine g_callV (As := [.ref c, .int (nI b)]) hX dX3_votesBrought_3 cb_X3_canBeRung ml_X3_157 im_X3_canBeRung se_X3_canBeRung rfl rfl (r0) ⟨_, rfl, rfl⟩ (kX3_canBeRung hst (l0) (r0) (f0) (fst) (fti) (by omega) (by omega)) (Nat.le_of_ble_eq_true rfl) (Nat.le_of_ble_eq_true rfl) (by omega) (by omega) (Nat.le_of_ble_eq_true rfl) GX.no (pq ?_)
  show GW X 6 [some (.ref 0), some (.int (nI b)), some (.ref c), some (.int (nI L))] [.int (if (0 < m ∧ freshI st ti rc (nI b) = nI 6) then nI 1 else nI 0)] h n 0 0
  refine g_ifB_ne (tgt := 13) hX dX3_votesBrought_6 (by decide) (fun c1 => ?_) (fun c1 => ?_)
  · refine g_aload_n hX dX3_votesBrought_13 rfl rfl ?_
    refine g_getf hX dX3_votesBrought_14 fl_X3_16 (r0) rfl ?_
    refine g_aload_n hX dX3_votesBrought_17 rfl rfl ?_
    refine g_getf hX dX3_votesBrought_18 fl_X3_12 (r0) rfl ?_
    refine g_callV (As := [.ref 1]) hX dX3_votesBrought_21 cb_X2_copyFrom ml_X3_106 im_X2_copyFrom se_X2_copyFrom rfl rfl (o0) ⟨_, rfl, rfl⟩ (kX2_copyFrom hst (o0) (owd) (osk) (ovt) (oti) (ofa) (ost) (ows) (f0) (fwd) (fsk) (fvt) (fti) (ffa) (fst) (fws) (by omega)) (Nat.le_of_ble_eq_true rfl) (Nat.le_of_ble_eq_true rfl) (by omega) (by omega) (Nat.le_of_ble_eq_true rfl) GX.no (pq ?_)
    show GW X 24 [some (.ref 0), some (.int (nI b)), some (.ref c), some (.int (nI L))] [] (hs (hs (hs (hs (hs (hs (hs (hs h (10 + 1) (aI 20 wd)) (10 + 2) (aI 20 sk)) (10 + 3) (aI 20 vt)) (10 + 4) (aI 20 ti)) (10 + 5) (aI 20 fa)) (10 + 7) (aI 20 st)) (10 + 8) (aI 18 ws)) 10 (oB 2 [.ref (10 + 1), .ref (10 + 2), .ref (10 + 3), .ref (10 + 4), .ref (10 + 5), .ref (10 + 6), .ref (10 + 7), .ref (10 + 8), .int (nI rc), .int dy])) n 0 0
    refine g_aload_n hX dX3_votesBrought_24 rfl rfl ?_
    refine g_getf hX dX3_votesBrought_25 fl_X3_16 ((hs_ne (by omega)).trans ((hs_ne (by omega)).trans ((hs_ne (by omega)).trans ((hs_ne (by omega)).trans ((hs_ne (by omega)).trans ((hs_ne (by omega)).trans ((hs_ne (by omega)).trans ((hs_ne (by omega)).trans (r0))))))))) rfl ?_
    refine g_iload_n hX dX3_votesBrought_28 rfl rfl ?_
    refine g_aload_n hX dX3_votesBrought_29 rfl rfl ?_
    refine g_iload_n hX dX3_votesBrought_30 rfl rfl ?_
    refine g_aload_n hX dX3_votesBrought_31 rfl rfl ?_
    refine g_getf hX dX3_votesBrought_32 fl_X3_22 ((hs_ne (by omega)).trans ((hs_ne (by omega)).trans ((hs_ne (by omega)).trans ((hs_ne (by omega)).trans ((hs_ne (by omega)).trans ((hs_ne (by omega)).trans ((hs_ne (by omega)).trans ((hs_ne (by omega)).trans (r0))))))))) rfl ?_
    refine g_callV (As := [.int (nI b), .ref c, .int (nI L), .ref 19]) hX dX3_votesBrought_35 cb_X2_ringTouch ml_X3_163 im_X2_ringTouch se_X2_ringTouch rfl rfl (hs_eq _ _ _) ⟨_, rfl, rfl⟩ (kX2_ringTouch hst (hs_eq _ _ _) ((hs_ne (by omega)).trans ((hs_ne (by omega)).trans ((hs_ne (by omega)).trans ((hs_ne (by omega)).trans ((hs_ne (by omega)).trans ((hs_ne (by omega)).trans (hs_eq _ _ _))))))) ((hs_ne (by omega)).trans ((hs_ne (by omega)).trans ((hs_ne (by omega)).trans ((hs_ne (by omega)).trans ((hs_ne (by omega)).trans (hs_eq _ _ _)))))) ((hs_ne (by omega)).trans ((hs_ne (by omega)).trans ((hs_ne (by omega)).trans ((hs_ne (by omega)).trans (hs_eq _ _ _))))) ((hs_ne (by omega)).trans ((hs_ne (by omega)).trans ((hs_ne (by omega)).trans (hs_eq _ _ _)))) ((hs_ne (by omega)).trans ((hs_ne (by omega)).trans ((hs_ne (by omega)).trans ((hs_ne (by omega)).trans ((hs_ne (by omega)).trans ((hs_ne (by omega)).trans ((hs_ne (by omega)).trans ((hs_ne (by omega)).trans (otf))))))))) ((hs_ne (by omega)).trans ((hs_ne (by omega)).trans (hs_eq _ _ _))) ((hs_ne (by omega)).trans ((hs_ne (by omega)).trans ((hs_ne (by omega)).trans ((hs_ne (by omega)).trans ((hs_ne (by omega)).trans ((hs_ne (by omega)).trans ((hs_ne (by omega)).trans ((hs_ne (by omega)).trans (g0))))))))) ((hs_ne (by omega)).trans ((hs_ne (by omega)).trans ((hs_ne (by omega)).trans ((hs_ne (by omega)).trans ((hs_ne (by omega)).trans ((hs_ne (by omega)).trans ((hs_ne (by omega)).trans ((hs_ne (by omega)).trans (g1))))))))) ((hs_ne (by omega)).trans ((hs_ne (by omega)).trans ((hs_ne (by omega)).trans ((hs_ne (by omega)).trans ((hs_ne (by omega)).trans ((hs_ne (by omega)).trans ((hs_ne (by omega)).trans ((hs_ne (by omega)).trans (g2))))))))) ((hs_ne (by omega)).trans ((hs_ne (by omega)).trans ((hs_ne (by omega)).trans ((hs_ne (by omega)).trans ((hs_ne (by omega)).trans ((hs_ne (by omega)).trans ((hs_ne (by omega)).trans ((hs_ne (by omega)).trans (g3))))))))) ((hs_ne (by omega)).trans ((hs_ne (by omega)).trans ((hs_ne (by omega)).trans ((hs_ne (by omega)).trans ((hs_ne (by omega)).trans ((hs_ne (by omega)).trans ((hs_ne (by omega)).trans ((hs_ne (by omega)).trans (g4))))))))) ((hs_ne (by omega)).trans ((hs_ne (by omega)).trans ((hs_ne (by omega)).trans ((hs_ne (by omega)).trans ((hs_ne (by omega)).trans ((hs_ne (by omega)).trans ((hs_ne (by omega)).trans ((hs_ne (by omega)).trans (l0))))))))) ((hs_ne (by omega)).trans ((hs_ne (by omega)).trans ((hs_ne (by omega)).trans ((hs_ne (by omega)).trans ((hs_ne (by omega)).trans ((hs_ne (by omega)).trans ((hs_ne (by omega)).trans ((hs_ne (by omega)).trans (l1))))))))) (by omega) (by omega) (by omega) (by omega) (by omega) (by omega) hso hch) (Nat.le_of_ble_eq_true rfl) (Nat.le_of_ble_eq_true rfl) (by omega) (by omega) (Nat.le_of_ble_eq_true rfl) GX.no (pq ?_)
    show GW X 38 [some (.ref 0), some (.int (nI b)), some (.ref c), some (.int (nI L))] [.int (ringF (ringI st sk ti fa ch ma rc b m L))] (putT (hs (hs (hs (hs (hs (hs (hs (hs (hs (hs (hs (hs h (10 + 1) (aI 20 wd)) (10 + 2) (aI 20 sk)) (10 + 3) (aI 20 vt)) (10 + 4) (aI 20 ti)) (10 + 5) (aI 20 fa)) (10 + 7) (aI 20 st)) (10 + 8) (aI 18 ws)) 10 (oB 2 [.ref (10 + 1), .ref (10 + 2), .ref (10 + 3), .ref (10 + 4), .ref (10 + 5), .ref (10 + 6), .ref (10 + 7), .ref (10 + 8), .int (nI rc), .int dy])) (10 + 3) (aI 20 (vtI st (ringI st sk ti fa ch ma rc b m L).2.2.2 rc b (moreI (ringI st sk ti fa ch ma rc b m L).1.1 (ringF (ringI st sk ti fa ch ma rc b m L)) L) vt))) (10 + 4) (aI 20 ((ringI st sk ti fa ch ma rc b m L).2.1))) (10 + 5) (aI 20 ((ringI st sk ti fa ch ma rc b m L).2.2.1))) (10 + 6) (aI 20 ((ringI st sk ti fa ch ma rc b m L).2.2.2))) 19 ((ringI st sk ti fa ch ma rc b m L).1)) n 0 0
    refine g_cg (h' := (putT (hs (hs (hs (hs (hs (hs (hs (hs (hs h 10 (oB 2 [.ref (10 + 1), .ref (10 + 2), .ref (10 + 3), .ref (10 + 4), .ref (10 + 5), .ref (10 + 6), .ref (10 + 7), .ref (10 + 8), .int (nI rc), .int dy])) (10 + 1) (aI 20 wd)) (10 + 2) (aI 20 sk)) (10 + 3) (aI 20 (vtI st (ringI st sk ti fa ch ma rc b m L).2.2.2 rc b (moreI (ringI st sk ti fa ch ma rc b m L).1.1 (ringF (ringI st sk ti fa ch ma rc b m L)) L) vt))) (10 + 4) (aI 20 ((ringI st sk ti fa ch ma rc b m L).2.1))) (10 + 5) (aI 20 ((ringI st sk ti fa ch ma rc b m L).2.2.1))) (10 + 6) (aI 20 ((ringI st sk ti fa ch ma rc b m L).2.2.2))) (10 + 7) (aI 20 st)) (10 + 8) (aI 18 ws)) 19 ((ringI st sk ti fa ch ma rc b m L).1))) rfl (by rw [hs_cm (k := 10) (j := 10 + 8) _ _ _ (by omega), hs_cm (k := 10) (j := 10 + 7) _ _ _ (by omega), hs_cm (k := 10) (j := 10 + 5) _ _ _ (by omega), hs_cm (k := 10) (j := 10 + 4) _ _ _ (by omega), hs_cm (k := 10) (j := 10 + 3) _ _ _ (by omega), hs_cm (k := 10) (j := 10 + 2) _ _ _ (by omega), hs_cm (k := 10) (j := 10 + 1) _ _ _ (by omega), hs_cm (k := 10 + 3) (j := 10 + 8) _ _ _ (by omega), hs_cm (k := 10 + 3) (j := 10 + 7) _ _ _ (by omega), hs_cm (k := 10 + 3) (j := 10 + 5) _ _ _ (by omega), hs_cm (k := 10 + 3) (j := 10 + 4) _ _ _ (by omega), hs_hs (k := 10 + 3), hs_cm (k := 10 + 4) (j := 10 + 8) _ _ _ (by omega), hs_cm (k := 10 + 4) (j := 10 + 7) _ _ _ (by omega), hs_cm (k := 10 + 4) (j := 10 + 5) _ _ _ (by omega), hs_hs (k := 10 + 4), hs_cm (k := 10 + 5) (j := 10 + 8) _ _ _ (by omega), hs_cm (k := 10 + 5) (j := 10 + 7) _ _ _ (by omega), hs_hs (k := 10 + 5), hs_cm (k := 10 + 6) (j := 10 + 8) _ _ _ (by omega), hs_cm (k := 10 + 6) (j := 10 + 7) _ _ _ (by omega)]) ?_
    refine g_pop hX dX3_votesBrought_38 rfl ?_
    refine g_aload_n hX dX3_votesBrought_39 rfl rfl ?_
    refine g_getf hX dX3_votesBrought_40 fl_X3_16 ((putT_ne (by omega)).trans ((hs_ne (by omega)).trans ((hs_ne (by omega)).trans ((hs_ne (by omega)).trans ((hs_ne (by omega)).trans ((hs_ne (by omega)).trans ((hs_ne (by omega)).trans ((hs_ne (by omega)).trans ((hs_ne (by omega)).trans ((hs_ne (by omega)).trans (r0))))))))))) rfl ?_
    refine g_callV (As := []) hX dX3_votesBrought_43 cb_X2_allVotes ml_X3_192 im_X2_allVotes se_X2_allVotes rfl rfl ((putT_ne (by omega)).trans ((hs_ne (by omega)).trans ((hs_ne (by omega)).trans ((hs_ne (by omega)).trans ((hs_ne (by omega)).trans ((hs_ne (by omega)).trans ((hs_ne (by omega)).trans ((hs_ne (by omega)).trans ((hs_ne (by omega)).trans (hs_eq _ _ _)))))))))) ⟨_, rfl, rfl⟩ (kX2_allVotes hst ((putT_ne (by omega)).trans ((hs_ne (by omega)).trans ((hs_ne (by omega)).trans ((hs_ne (by omega)).trans ((hs_ne (by omega)).trans ((hs_ne (by omega)).trans ((hs_ne (by omega)).trans ((hs_ne (by omega)).trans ((hs_ne (by omega)).trans (hs_eq _ _ _)))))))))) ((putT_ne (by omega)).trans ((hs_ne (by omega)).trans ((hs_ne (by omega)).trans ((hs_ne (by omega)).trans ((hs_ne (by omega)).trans ((hs_ne (by omega)).trans (hs_eq _ _ _))))))) (by omega)) (Nat.le_of_ble_eq_true rfl) (Nat.le_of_ble_eq_true rfl) (by omega) (by omega) (Nat.le_of_ble_eq_true rfl) GX.no (pq ?_)
    show GW X 46 [some (.ref 0), some (.int (nI b)), some (.ref c), some (.int (nI L))] [.int (sumI (vtI st (ringI st sk ti fa ch ma rc b m L).2.2.2 rc b (moreI (ringI st sk ti fa ch ma rc b m L).1.1 (ringF (ringI st sk ti fa ch ma rc b m L)) L) vt) rc)] (putT (hs (hs (hs (hs (hs (hs (hs (hs (hs h 10 (oB 2 [.ref (10 + 1), .ref (10 + 2), .ref (10 + 3), .ref (10 + 4), .ref (10 + 5), .ref (10 + 6), .ref (10 + 7), .ref (10 + 8), .int (nI rc), .int dy])) (10 + 1) (aI 20 wd)) (10 + 2) (aI 20 sk)) (10 + 3) (aI 20 (vtI st (ringI st sk ti fa ch ma rc b m L).2.2.2 rc b (moreI (ringI st sk ti fa ch ma rc b m L).1.1 (ringF (ringI st sk ti fa ch ma rc b m L)) L) vt))) (10 + 4) (aI 20 ((ringI st sk ti fa ch ma rc b m L).2.1))) (10 + 5) (aI 20 ((ringI st sk ti fa ch ma rc b m L).2.2.1))) (10 + 6) (aI 20 ((ringI st sk ti fa ch ma rc b m L).2.2.2))) (10 + 7) (aI 20 st)) (10 + 8) (aI 18 ws)) 19 ((ringI st sk ti fa ch ma rc b m L).1)) n 0 0
    refine g_aload_n hX dX3_votesBrought_46 rfl rfl ?_
    refine g_getf hX dX3_votesBrought_47 fl_X3_12 ((putT_ne (by omega)).trans ((hs_ne (by omega)).trans ((hs_ne (by omega)).trans ((hs_ne (by omega)).trans ((hs_ne (by omega)).trans ((hs_ne (by omega)).trans ((hs_ne (by omega)).trans ((hs_ne (by omega)).trans ((hs_ne (by omega)).trans ((hs_ne (by omega)).trans (r0))))))))))) rfl ?_
    refine g_callV (As := []) hX dX3_votesBrought_50 cb_X2_allVotes ml_X3_192 im_X2_allVotes se_X2_allVotes rfl rfl ((putT_ne (by omega)).trans ((hs_ne (by omega)).trans ((hs_ne (by omega)).trans ((hs_ne (by omega)).trans ((hs_ne (by omega)).trans ((hs_ne (by omega)).trans ((hs_ne (by omega)).trans ((hs_ne (by omega)).trans ((hs_ne (by omega)).trans ((hs_ne (by omega)).trans (f0))))))))))) ⟨_, rfl, rfl⟩ (kX2_allVotes hst ((putT_ne (by omega)).trans ((hs_ne (by omega)).trans ((hs_ne (by omega)).trans ((hs_ne (by omega)).trans ((hs_ne (by omega)).trans ((hs_ne (by omega)).trans ((hs_ne (by omega)).trans ((hs_ne (by omega)).trans ((hs_ne (by omega)).trans ((hs_ne (by omega)).trans (f0))))))))))) ((putT_ne (by omega)).trans ((hs_ne (by omega)).trans ((hs_ne (by omega)).trans ((hs_ne (by omega)).trans ((hs_ne (by omega)).trans ((hs_ne (by omega)).trans ((hs_ne (by omega)).trans ((hs_ne (by omega)).trans ((hs_ne (by omega)).trans ((hs_ne (by omega)).trans (fvt))))))))))) (by omega)) (Nat.le_of_ble_eq_true rfl) (Nat.le_of_ble_eq_true rfl) (by omega) (by omega) (Nat.le_of_ble_eq_true rfl) GX.no (pq ?_)
    show GW X 53 [some (.ref 0), some (.int (nI b)), some (.ref c), some (.int (nI L))] [.int (sumI vt rc), .int (sumI (vtI st (ringI st sk ti fa ch ma rc b m L).2.2.2 rc b (moreI (ringI st sk ti fa ch ma rc b m L).1.1 (ringF (ringI st sk ti fa ch ma rc b m L)) L) vt) rc)] (putT (hs (hs (hs (hs (hs (hs (hs (hs (hs h 10 (oB 2 [.ref (10 + 1), .ref (10 + 2), .ref (10 + 3), .ref (10 + 4), .ref (10 + 5), .ref (10 + 6), .ref (10 + 7), .ref (10 + 8), .int (nI rc), .int dy])) (10 + 1) (aI 20 wd)) (10 + 2) (aI 20 sk)) (10 + 3) (aI 20 (vtI st (ringI st sk ti fa ch ma rc b m L).2.2.2 rc b (moreI (ringI st sk ti fa ch ma rc b m L).1.1 (ringF (ringI st sk ti fa ch ma rc b m L)) L) vt))) (10 + 4) (aI 20 ((ringI st sk ti fa ch ma rc b m L).2.1))) (10 + 5) (aI 20 ((ringI st sk ti fa ch ma rc b m L).2.2.1))) (10 + 6) (aI 20 ((ringI st sk ti fa ch ma rc b m L).2.2.2))) (10 + 7) (aI 20 st)) (10 + 8) (aI 18 ws)) 19 ((ringI st sk ti fa ch ma rc b m L).1)) n 0 0
    refine g_isub hX dX3_votesBrought_53 ?_
    refine g_ireturn hX hr dX3_votesBrought_54 (Nat.le_refl _) (Nat.le_refl _)  ?_
    exact ⟨by rw [brought, if_pos c1], rfl, fun j hj => (putT_ne (by omega)).trans ((hs_ne (by omega)).trans ((hs_ne (by omega)).trans ((hs_ne (by omega)).trans ((hs_ne (by omega)).trans ((hs_ne (by omega)).trans ((hs_ne (by omega)).trans ((hs_ne (by omega)).trans ((hs_ne (by omega)).trans ((hs_ne (by omega)).trans (rfl)))))))))), ⟨_, _, _, _, _, _, _, _, _, _, ((putT_ne (by omega)).trans ((hs_ne (by omega)).trans ((hs_ne (by omega)).trans ((hs_ne (by omega)).trans ((hs_ne (by omega)).trans ((hs_ne (by omega)).trans ((hs_ne (by omega)).trans ((hs_ne (by omega)).trans ((hs_ne (by omega)).trans (hs_eq _ _ _)))))))))), ((putT_ne (by omega)).trans ((hs_ne (by omega)).trans ((hs_ne (by omega)).trans ((hs_ne (by omega)).trans ((hs_ne (by omega)).trans ((hs_ne (by omega)).trans ((hs_ne (by omega)).trans ((hs_ne (by omega)).trans (hs_eq _ _ _))))))))), ((putT_ne (by omega)).trans ((hs_ne (by omega)).trans ((hs_ne (by omega)).trans ((hs_ne (by omega)).trans ((hs_ne (by omega)).trans ((hs_ne (by omega)).trans ((hs_ne (by omega)).trans (hs_eq _ _ _)))))))), ((putT_ne (by omega)).trans ((hs_ne (by omega)).trans ((hs_ne (by omega)).trans ((hs_ne (by omega)).trans ((hs_ne (by omega)).trans ((hs_ne (by omega)).trans (hs_eq _ _ _))))))), ((putT_ne (by omega)).trans ((hs_ne (by omega)).trans ((hs_ne (by omega)).trans ((hs_ne (by omega)).trans ((hs_ne (by omega)).trans (hs_eq _ _ _)))))), ((putT_ne (by omega)).trans ((hs_ne (by omega)).trans ((hs_ne (by omega)).trans ((hs_ne (by omega)).trans (hs_eq _ _ _))))), ((putT_ne (by omega)).trans ((hs_ne (by omega)).trans ((hs_ne (by omega)).trans (hs_eq _ _ _)))), ((putT_ne (by omega)).trans ((hs_ne (by omega)).trans (hs_eq _ _ _))), ((putT_ne (by omega)).trans (hs_eq _ _ _))⟩, ⟨_, _, _, _, _, _, putT_0, putT_1, putT_2, putT_3, putT_4⟩⟩
  · refine g_sipush (v := (-1000)) hX dX3_votesBrought_9 (by decide) ?_
    refine g_ireturn hX hr dX3_votesBrought_12 (Nat.le_refl _) (Nat.le_refl _)  ?_
    exact ⟨by rw [brought, if_neg c1], rfl, fun j hj => rfl, ⟨_, _, _, _, _, _, _, _, _, _, o0, owd, osk, ovt, oti, ofa, otf, ost, ows⟩, ⟨_, _, _, _, _, _, g0, g1, g2, g3, g4⟩⟩
set_option maxRecDepth 20000 in
theorem kX3_ring_b {l : Launch} {K : gw_K} (hst : l.stackTraces = false) {rc mc n : Nat} {dy tch frs : Int32} {h : gw_H} {a b d : Int32} (r0 : h 0 = (oB 3 [.ref 1, .ref 10, .ref 19, .ref 24, .int (nI mc), .int tch, .int frs])) (f0 : h 1 = (oB 2 [.ref (1 + 1), .ref (1 + 2), .ref (1 + 3), .ref (1 + 4), .ref (1 + 5), .ref (1 + 6), .ref (1 + 7), .ref (1 + 8), .int (nI rc), .int dy])) (hz : a < 0 ∨ nI 3 ≤ a) : Ctr l K mX3_ring [.ref 0, .int a, .int b, .int d] h n 1 6 (fun _ _ _ => False) (PXQ "java/lang/IndexOutOfBoundsException" h n) := by
  refine Ctr.of hst pn_X3_ring (Nat.le_of_ble_eq_true rfl) (fun X hX hr hE => ?_)
  have hX : FX l K X cX3_ring RX3 8 132 1 6 := hX
  show GW X 0 [some (.ref 0), some (.int a), some (.int b), some (.int d), none, none] [] h n 0 0
  refine g_iload_n hX dX3_ring_0 rfl rfl ?_
  refine g_iconst (v := (nI 3)) hX dX3_ring_1 (by decide) ?_
  refine g_callS (As := [.int a, .int (nI 3)]) hX dX3_ring_2 cb_X3_requireIndex ml_X3_33 st_X3_requireIndex rfl rfl (kX3_requireIndex_x hst (hz)) (Nat.le_of_ble_eq_true rfl) (Nat.le_of_ble_eq_true rfl) (by omega) (by omega) (Nat.le_of_ble_eq_true rfl) ?_ ?_
  · refine px ?_
    refine g_out hX hr hE.1 (by omega) (by omega) ?_
    exact ⟨rfl, rfl, rfl⟩
  · exact fun _ _ _ _ h => h.elim
set_option maxRecDepth 20000 in
theorem kX3_ring_m {l : Launch} {K : gw_K} (hst : l.stackTraces = false) {rc mc n : Nat} {dy tch frs : Int32} {h : gw_H} {b : Nat} {a d : Int32} (r0 : h 0 = (oB 3 [.ref 1, .ref 10, .ref 19, .ref 24, .int (nI mc), .int tch, .int frs])) (f0 : h 1 = (oB 2 [.ref (1 + 1), .ref (1 + 2), .ref (1 + 3), .ref (1 + 4), .ref (1 + 5), .ref (1 + 6), .ref (1 + 7), .ref (1 + 8), .int (nI rc), .int dy])) (hb3 : b < 3) (hz : a < 0 ∨ nI mc ≤ a) : Ctr l K mX3_ring [.ref 0, .int (nI b), .int a, .int d] h n 1 6 (fun _ _ _ => False) (PXQ "java/lang/IndexOutOfBoundsException" h n) := by
  refine Ctr.of hst pn_X3_ring (Nat.le_of_ble_eq_true rfl) (fun X hX hr hE => ?_)
  have hX : FX l K X cX3_ring RX3 8 132 1 6 := hX
  show GW X 0 [some (.ref 0), some (.int (nI b)), some (.int a), some (.int d), none, none] [] h n 0 0
  refine g_iload_n hX dX3_ring_0 rfl rfl ?_
  refine g_iconst (v := (nI 3)) hX dX3_ring_1 (by decide) ?_
  refine g_callS (As := [.int (nI b), .int (nI 3)]) hX dX3_ring_2 cb_X3_requireIndex ml_X3_33 st_X3_requireIndex rfl rfl (kX3_requireIndex hst (gn_okI hb3 (by omega))) (Nat.le_of_ble_eq_true rfl) (Nat.le_of_ble_eq_true rfl) (by omega) (by omega) (Nat.le_of_ble_eq_true rfl) GX.no (pq ?_)
  show GW X 5 [some (.ref 0), some (.int (nI b)), some (.int a), some (.int d), none, none] [] h n 0 0
  refine g_aload_n hX dX3_ring_5 rfl rfl ?_
  refine g_iload_n hX dX3_ring_6 rfl rfl ?_
  refine g_callV (As := [.int a]) hX dX3_ring_7 cb_X3_listNumbered ml_X3_115 im_X3_listNumbered se_X3_listNumbered rfl rfl (r0) ⟨_, rfl, rfl⟩ (kX3_listNumbered_b hst (r0) (f0) (hz)) (Nat.le_of_ble_eq_true rfl) (Nat.le_of_ble_eq_true rfl) (by omega) (by omega) (Nat.le_of_ble_eq_true rfl) ?_ ?_
  · refine px ?_
    refine g_out hX hr hE.1 (by omega) (by omega) ?_
    exact ⟨rfl, rfl, rfl⟩
  · exact fun _ _ _ _ h => h.elim
set_option maxRecDepth 20000 in
theorem kX3_ring_l {l : Launch} {K : gw_K} (hst : l.stackTraces = false) {rc mc n : Nat} {dy tch frs : Int32} {h : gw_H} {c m : Nat} {ld rw_ fr ho : Int32} {ch dg : Nat → Int32} {b k : Nat} {d : Int32} (r0 : h 0 = (oB 3 [.ref 1, .ref 10, .ref 19, .ref 24, .int (nI mc), .int tch, .int frs])) (f0 : h 1 = (oB 2 [.ref (1 + 1), .ref (1 + 2), .ref (1 + 3), .ref (1 + 4), .ref (1 + 5), .ref (1 + 6), .ref (1 + 7), .ref (1 + 8), .int (nI rc), .int dy])) (l0 : h c = (oB 0 [.ref (c + 1), .ref (c + 2), .int (nI m), .int ld, .int rw_, .int fr, .int ho])) (l1 : h (c + 1) = (aI 12 ch)) (l2 : h (c + 2) = (aI 6 dg)) (la : h 24 = (aQ 5 lsF)) (hk : k < mc) (hm5 : mc ≤ 5) (hck : c = 25 + 3 * k) (hm12 : m ≤ 12) (hb3 : b < 3) (hz : d < nI 1 ∨ nI 12 < d) : Ctr l K mX3_ring [.ref 0, .int (nI b), .int (nI k), .int d] h n 1 6 (fun _ _ _ => False) (PXQ "java/lang/IllegalArgumentException" h n) := by
  refine Ctr.of hst pn_X3_ring (Nat.le_of_ble_eq_true rfl) (fun X hX hr hE => ?_)
  have hX : FX l K X cX3_ring RX3 8 132 1 6 := hX
  show GW X 0 [some (.ref 0), some (.int (nI b)), some (.int (nI k)), some (.int d), none, none] [] h n 0 0
  refine g_iload_n hX dX3_ring_0 rfl rfl ?_
  refine g_iconst (v := (nI 3)) hX dX3_ring_1 (by decide) ?_
  refine g_callS (As := [.int (nI b), .int (nI 3)]) hX dX3_ring_2 cb_X3_requireIndex ml_X3_33 st_X3_requireIndex rfl rfl (kX3_requireIndex hst (gn_okI hb3 (by omega))) (Nat.le_of_ble_eq_true rfl) (Nat.le_of_ble_eq_true rfl) (by omega) (by omega) (Nat.le_of_ble_eq_true rfl) GX.no (pq ?_)
  show GW X 5 [some (.ref 0), some (.int (nI b)), some (.int (nI k)), some (.int d), none, none] [] h n 0 0
  refine g_aload_n hX dX3_ring_5 rfl rfl ?_
  refine g_iload_n hX dX3_ring_6 rfl rfl ?_
  refine g_callV (As := [.int (nI k)]) hX dX3_ring_7 cb_X3_listNumbered ml_X3_115 im_X3_listNumbered se_X3_listNumbered rfl rfl (r0) ⟨_, rfl, rfl⟩ (kX3_listNumbered hst (r0) (la) (by omega) (by omega) (hck)) (Nat.le_of_ble_eq_true rfl) (Nat.le_of_ble_eq_true rfl) (by omega) (by omega) (Nat.le_of_ble_eq_true rfl) GX.no (pq ?_)
  show GW X 10 [some (.ref 0), some (.int (nI b)), some (.int (nI k)), some (.int d), none, none] [.ref c] h n 0 0
  refine g_astore hX dX3_ring_10 (Nat.le_of_ble_eq_true rfl) rfl ?_
  refine g_iload_n hX dX3_ring_12 rfl rfl ?_
  refine g_iconst (v := (nI 1)) hX dX3_ring_13 (by decide) ?_
  refine g_bipush (v := (nI 12)) hX dX3_ring_14 (by decide) ?_
  refine g_callS (As := [.int d, .int (nI 1), .int (nI 12)]) hX dX3_ring_16 cb_X3_requireWithin ml_X3_37 st_X3_requireWithin rfl rfl (kX3_requireWithin_x hst (hz)) (Nat.le_of_ble_eq_true rfl) (Nat.le_of_ble_eq_true rfl) (by omega) (by omega) (Nat.le_of_ble_eq_true rfl) ?_ ?_
  · refine px ?_
    refine g_out hX hr hE.1 (by omega) (by omega) ?_
    exact ⟨rfl, rfl, rfl⟩
  · exact fun _ _ _ _ h => h.elim
set_option maxRecDepth 20000 in
theorem kX3_would_b {l : Launch} {K : gw_K} (hst : l.stackTraces = false) {rc mc n : Nat} {dy tch frs : Int32} {h : gw_H} {a b d : Int32} (r0 : h 0 = (oB 3 [.ref 1, .ref 10, .ref 19, .ref 24, .int (nI mc), .int tch, .int frs])) (f0 : h 1 = (oB 2 [.ref (1 + 1), .ref (1 + 2), .ref (1 + 3), .ref (1 + 4), .ref (1 + 5), .ref (1 + 6), .ref (1 + 7), .ref (1 + 8), .int (nI rc), .int dy])) (hz : a < 0 ∨ nI 3 ≤ a) : Ctr l K mX3_would [.ref 0, .int a, .int b, .int d] h n 1 6 (fun _ _ _ => False) (PXQ "java/lang/IndexOutOfBoundsException" h n) := by
  refine Ctr.of hst pn_X3_would (Nat.le_of_ble_eq_true rfl) (fun X hX hr hE => ?_)
  have hX : FX l K X cX3_would RX3 8 132 1 6 := hX
  show GW X 0 [some (.ref 0), some (.int a), some (.int b), some (.int d), none] [] h n 0 0
  refine g_iload_n hX dX3_would_0 rfl rfl ?_
  refine g_iconst (v := (nI 3)) hX dX3_would_1 (by decide) ?_
  refine g_callS (As := [.int a, .int (nI 3)]) hX dX3_would_2 cb_X3_requireIndex ml_X3_33 st_X3_requireIndex rfl rfl (kX3_requireIndex_x hst (hz)) (Nat.le_of_ble_eq_true rfl) (Nat.le_of_ble_eq_true rfl) (by omega) (by omega) (Nat.le_of_ble_eq_true rfl) ?_ ?_
  · refine px ?_
    refine g_out hX hr hE.1 (by omega) (by omega) ?_
    exact ⟨rfl, rfl, rfl⟩
  · exact fun _ _ _ _ h => h.elim
set_option maxRecDepth 20000 in
theorem kX3_would_m {l : Launch} {K : gw_K} (hst : l.stackTraces = false) {rc mc n : Nat} {dy tch frs : Int32} {h : gw_H} {b : Nat} {a d : Int32} (r0 : h 0 = (oB 3 [.ref 1, .ref 10, .ref 19, .ref 24, .int (nI mc), .int tch, .int frs])) (f0 : h 1 = (oB 2 [.ref (1 + 1), .ref (1 + 2), .ref (1 + 3), .ref (1 + 4), .ref (1 + 5), .ref (1 + 6), .ref (1 + 7), .ref (1 + 8), .int (nI rc), .int dy])) (hb3 : b < 3) (hz : a < 0 ∨ nI mc ≤ a) : Ctr l K mX3_would [.ref 0, .int (nI b), .int a, .int d] h n 1 6 (fun _ _ _ => False) (PXQ "java/lang/IndexOutOfBoundsException" h n) := by
  refine Ctr.of hst pn_X3_would (Nat.le_of_ble_eq_true rfl) (fun X hX hr hE => ?_)
  have hX : FX l K X cX3_would RX3 8 132 1 6 := hX
  show GW X 0 [some (.ref 0), some (.int (nI b)), some (.int a), some (.int d), none] [] h n 0 0
  refine g_iload_n hX dX3_would_0 rfl rfl ?_
  refine g_iconst (v := (nI 3)) hX dX3_would_1 (by decide) ?_
  refine g_callS (As := [.int (nI b), .int (nI 3)]) hX dX3_would_2 cb_X3_requireIndex ml_X3_33 st_X3_requireIndex rfl rfl (kX3_requireIndex hst (gn_okI hb3 (by omega))) (Nat.le_of_ble_eq_true rfl) (Nat.le_of_ble_eq_true rfl) (by omega) (by omega) (Nat.le_of_ble_eq_true rfl) GX.no (pq ?_)
  show GW X 5 [some (.ref 0), some (.int (nI b)), some (.int a), some (.int d), none] [] h n 0 0
  refine g_aload_n hX dX3_would_5 rfl rfl ?_
  refine g_iload_n hX dX3_would_6 rfl rfl ?_
  refine g_callV (As := [.int a]) hX dX3_would_7 cb_X3_listNumbered ml_X3_115 im_X3_listNumbered se_X3_listNumbered rfl rfl (r0) ⟨_, rfl, rfl⟩ (kX3_listNumbered_b hst (r0) (f0) (hz)) (Nat.le_of_ble_eq_true rfl) (Nat.le_of_ble_eq_true rfl) (by omega) (by omega) (Nat.le_of_ble_eq_true rfl) ?_ ?_
  · refine px ?_
    refine g_out hX hr hE.1 (by omega) (by omega) ?_
    exact ⟨rfl, rfl, rfl⟩
  · exact fun _ _ _ _ h => h.elim
set_option maxRecDepth 20000 in
theorem kX3_would_l {l : Launch} {K : gw_K} (hst : l.stackTraces = false) {rc mc n : Nat} {dy tch frs : Int32} {h : gw_H} {c m : Nat} {ld rw_ fr ho : Int32} {ch dg : Nat → Int32} {b k : Nat} {d : Int32} (r0 : h 0 = (oB 3 [.ref 1, .ref 10, .ref 19, .ref 24, .int (nI mc), .int tch, .int frs])) (f0 : h 1 = (oB 2 [.ref (1 + 1), .ref (1 + 2), .ref (1 + 3), .ref (1 + 4), .ref (1 + 5), .ref (1 + 6), .ref (1 + 7), .ref (1 + 8), .int (nI rc), .int dy])) (l0 : h c = (oB 0 [.ref (c + 1), .ref (c + 2), .int (nI m), .int ld, .int rw_, .int fr, .int ho])) (l1 : h (c + 1) = (aI 12 ch)) (l2 : h (c + 2) = (aI 6 dg)) (la : h 24 = (aQ 5 lsF)) (hk : k < mc) (hm5 : mc ≤ 5) (hck : c = 25 + 3 * k) (hm12 : m ≤ 12) (hb3 : b < 3) (hz : d < nI 1 ∨ nI 12 < d) : Ctr l K mX3_would [.ref 0, .int (nI b), .int (nI k), .int d] h n 1 6 (fun _ _ _ => False) (PXQ "java/lang/IllegalArgumentException" h n) := by
  refine Ctr.of hst pn_X3_would (Nat.le_of_ble_eq_true rfl) (fun X hX hr hE => ?_)
  have hX : FX l K X cX3_would RX3 8 132 1 6 := hX
  show GW X 0 [some (.ref 0), some (.int (nI b)), some (.int (nI k)), some (.int d), none] [] h n 0 0
  refine g_iload_n hX dX3_would_0 rfl rfl ?_
  refine g_iconst (v := (nI 3)) hX dX3_would_1 (by decide) ?_
  refine g_callS (As := [.int (nI b), .int (nI 3)]) hX dX3_would_2 cb_X3_requireIndex ml_X3_33 st_X3_requireIndex rfl rfl (kX3_requireIndex hst (gn_okI hb3 (by omega))) (Nat.le_of_ble_eq_true rfl) (Nat.le_of_ble_eq_true rfl) (by omega) (by omega) (Nat.le_of_ble_eq_true rfl) GX.no (pq ?_)
  show GW X 5 [some (.ref 0), some (.int (nI b)), some (.int (nI k)), some (.int d), none] [] h n 0 0
  refine g_aload_n hX dX3_would_5 rfl rfl ?_
  refine g_iload_n hX dX3_would_6 rfl rfl ?_
  refine g_callV (As := [.int (nI k)]) hX dX3_would_7 cb_X3_listNumbered ml_X3_115 im_X3_listNumbered se_X3_listNumbered rfl rfl (r0) ⟨_, rfl, rfl⟩ (kX3_listNumbered hst (r0) (la) (by omega) (by omega) (hck)) (Nat.le_of_ble_eq_true rfl) (Nat.le_of_ble_eq_true rfl) (by omega) (by omega) (Nat.le_of_ble_eq_true rfl) GX.no (pq ?_)
  show GW X 10 [some (.ref 0), some (.int (nI b)), some (.int (nI k)), some (.int d), none] [.ref c] h n 0 0
  refine g_astore hX dX3_would_10 (Nat.le_of_ble_eq_true rfl) rfl ?_
  refine g_iload_n hX dX3_would_12 rfl rfl ?_
  refine g_iconst (v := (nI 1)) hX dX3_would_13 (by decide) ?_
  refine g_bipush (v := (nI 12)) hX dX3_would_14 (by decide) ?_
  refine g_callS (As := [.int d, .int (nI 1), .int (nI 12)]) hX dX3_would_16 cb_X3_requireWithin ml_X3_37 st_X3_requireWithin rfl rfl (kX3_requireWithin_x hst (hz)) (Nat.le_of_ble_eq_true rfl) (Nat.le_of_ble_eq_true rfl) (by omega) (by omega) (Nat.le_of_ble_eq_true rfl) ?_ ?_
  · refine px ?_
    refine g_out hX hr hE.1 (by omega) (by omega) ?_
    exact ⟨rfl, rfl, rfl⟩
  · exact fun _ _ _ _ h => h.elim
set_option maxRecDepth 20000 in
theorem kX3_ring {l : Launch} {K : gw_K} (hst : l.stackTraces = false) {rc mc n : Nat} {dy tch frs : Int32} {h : gw_H} {wd sk vt ti fa tf st ws : Nat → Int32} {orc : Nat} {ody : Int32} {owd osk ovt oti ofa otf ost ows : Nat → Int32} {pl mv ma : Nat → Int32} {sn : Nat → Int64} {cm rr : Int32} {c m : Nat} {ld rw_ fr ho : Int32} {ch dg : Nat → Int32} {b k L : Nat} (r0 : h 0 = (oB 3 [.ref 1, .ref 10, .ref 19, .ref 24, .int (nI mc), .int tch, .int frs])) (f0 : h 1 = (oB 2 [.ref (1 + 1), .ref (1 + 2), .ref (1 + 3), .ref (1 + 4), .ref (1 + 5), .ref (1 + 6), .ref (1 + 7), .ref (1 + 8), .int (nI rc), .int dy])) (fwd : h (1 + 1) = (aI 20 wd)) (fsk : h (1 + 2) = (aI 20 sk)) (fvt : h (1 + 3) = (aI 20 vt)) (fti : h (1 + 4) = (aI 20 ti)) (ffa : h (1 + 5) = (aI 20 fa)) (ftf : h (1 + 6) = (aI 20 tf)) (fst : h (1 + 7) = (aI 20 st)) (fws : h (1 + 8) = (aI 18 ws)) (o0 : h 10 = (oB 2 [.ref (10 + 1), .ref (10 + 2), .ref (10 + 3), .ref (10 + 4), .ref (10 + 5), .ref (10 + 6), .ref (10 + 7), .ref (10 + 8), .int (nI orc), .int ody])) (owd : h (10 + 1) = (aI 20 owd)) (osk : h (10 + 2) = (aI 20 osk)) (ovt : h (10 + 3) = (aI 20 ovt)) (oti : h (10 + 4) = (aI 20 oti)) (ofa : h (10 + 5) = (aI 20 ofa)) (otf : h (10 + 6) = (aI 20 otf)) (ost : h (10 + 7) = (aI 20 ost)) (ows : h (10 + 8) = (aI 18 ows)) (g0 : h 19 = (oB 1 [.ref (19 + 1), .ref (19 + 2), .ref (19 + 3), .ref (19 + 4), .int cm, .int rr])) (g1 : h (19 + 1) = (aI 6 pl)) (g2 : h (19 + 2) = (aI 6 mv)) (g3 : h (19 + 3) = (aI 6 ma)) (g4 : h (19 + 4) = (aJ 122 sn)) (l0 : h c = (oB 0 [.ref (c + 1), .ref (c + 2), .int (nI m), .int ld, .int rw_, .int fr, .int ho])) (l1 : h (c + 1) = (aI 12 ch)) (l2 : h (c + 2) = (aI 6 dg)) (la : h 24 = (aQ 5 lsF)) (hrc : rc ≤ 20) (hk : k < mc) (hm5 : mc ≤ 5) (hck : c = 25 + 3 * k) (hm12 : m ≤ 12) (hb3 : b < 3) (hL1 : 1 ≤ L) (hL12 : L ≤ 12) (hso : ∀ r, r < rc → seatOK (st r)) (hch : ∀ i, i < m → vchg (ch i)) : Ctr l K mX3_ring [.ref 0, .int (nI b), .int (nI k), .int (nI L)] h n 1 6 (fun rv h' n' => (0 < m ∧ freshI st ti rc (nI b) = nI 6) ∧ PS (some (.int (ringF (ringI st sk ti fa ch ma rc b m L)))) (hs (hs (hs (hs (hs h 0 (oB 3 [.ref 1, .ref 10, .ref 19, .ref 24, .int (nI mc), .int (tch + nI 1), .int (frs + (ringF (ringI st sk ti fa ch ma rc b m L)))])) (1 + 3) (aI 20 (vtI st (ringI st sk ti fa ch ma rc b m L).2.2.2 rc b (moreI (ringI st sk ti fa ch ma rc b m L).1.1 (ringF (ringI st sk ti fa ch ma rc b m L)) L) vt))) (1 + 4) (aI 20 ((ringI st sk ti fa ch ma rc b m L).2.1))) (1 + 5) (aI 20 ((ringI st sk ti fa ch ma rc b m L).2.2.1))) (1 + 6) (aI 20 ((ringI st sk ti fa ch ma rc b m L).2.2.2))) n rv h' n') (fun E h' n' => ¬ (0 < m ∧ freshI st ti rc (nI b) = nI 6) ∧ E = "java/lang/IllegalStateException" ∧ h' = h ∧ n' = n) := by
  refine Ctr.of hst pn_X3_ring (Nat.le_of_ble_eq_true rfl) (fun X hX hr hE => ?_)
  have hX : FX l K X cX3_ring RX3 8 132 1 6 := hX
  show GW X 0 [some (.ref 0), some (.int (nI b)), some (.int (nI k)), some (.int (nI L)), none, none] [] h n 0 0
  refine g_iload_n hX dX3_ring_0 rfl rfl ?_
  refine g_iconst (v := (nI 3)) hX dX3_ring_1 (by decide) ?_
  refine g_callS (As := [.int (nI b), .int (nI 3)]) hX dX3_ring_2 cb_X3_requireIndex ml_X3_33 st_X3_requireIndex rfl rfl (kX3_requireIndex hst (gn_okI hb3 (by omega))) (Nat.le_of_ble_eq_true rfl) (Nat.le_of_ble_eq_true rfl) (by omega) (by omega) (Nat.le_of_ble_eq_true rfl) GX.no (pq ?_)
  show GW X 5 [some (.ref 0), some (.int (nI b)), some (.int (nI k)), some (.int (nI L)), none, none] [] h n 0 0
  refine g_aload_n hX dX3_ring_5 rfl rfl ?_
  refine g_iload_n hX dX3_ring_6 rfl rfl ?_
  refine g_callV (As := [.int (nI k)]) hX dX3_ring_7 cb_X3_listNumbered ml_X3_115 im_X3_listNumbered se_X3_listNumbered rfl rfl (r0) ⟨_, rfl, rfl⟩ (kX3_listNumbered hst (r0) (la) (by omega) (by omega) (hck)) (Nat.le_of_ble_eq_true rfl) (Nat.le_of_ble_eq_true rfl) (by omega) (by omega) (Nat.le_of_ble_eq_true rfl) GX.no (pq ?_)
  show GW X 10 [some (.ref 0), some (.int (nI b)), some (.int (nI k)), some (.int (nI L)), none, none] [.ref c] h n 0 0
  refine g_astore hX dX3_ring_10 (Nat.le_of_ble_eq_true rfl) rfl ?_
  refine g_iload_n hX dX3_ring_12 rfl rfl ?_
  refine g_iconst (v := (nI 1)) hX dX3_ring_13 (by decide) ?_
  refine g_bipush (v := (nI 12)) hX dX3_ring_14 (by decide) ?_
  refine g_callS (As := [.int (nI L), .int (nI 1), .int (nI 12)]) hX dX3_ring_16 cb_X3_requireWithin ml_X3_37 st_X3_requireWithin rfl rfl (kX3_requireWithin hst (gn_okW hL1 hL12 (by omega))) (Nat.le_of_ble_eq_true rfl) (Nat.le_of_ble_eq_true rfl) (by omega) (by omega) (Nat.le_of_ble_eq_true rfl) GX.no (pq ?_)
  show GW X 19 [some (.ref 0), some (.int (nI b)), some (.int (nI k)), some (.int (nI L)), some (.ref c), none] [] h n 0 0
  refine g_aload_n hX dX3_ring_19 rfl rfl ?_
  refine g_aload hX dX3_ring_20 rfl ?_
  refine g_iload_n hX dX3_ring_22 rfl rfl ?_
  refine g_callV (As := [.ref c, .int (nI b)]) hX dX3_ring_23 cb_X3_canBeRung ml_X3_157 im_X3_canBeRung se_X3_canBeRung rfl rfl (r0) ⟨_, rfl, rfl⟩ (kX3_canBeRung hst (l0) (r0) (f0) (fst) (fti) (by omega) (by omega)) (Nat.le_of_ble_eq_true rfl) (Nat.le_of_ble_eq_true rfl) (by omega) (by omega) (Nat.le_of_ble_eq_true rfl) GX.no (pq ?_)
  show GW X 26 [some (.ref 0), some (.int (nI b)), some (.int (nI k)), some (.int (nI L)), some (.ref c), none] [.int (if (0 < m ∧ freshI st ti rc (nI b) = nI 6) then nI 1 else nI 0)] h n 0 0
  refine g_ifB_ne (tgt := 39) hX dX3_ring_26 (by decide) (fun c1 => ?_) (fun c1 => ?_)
  · refine g_aload_n hX dX3_ring_39 rfl rfl ?_
    refine g_getf hX dX3_ring_40 fl_X3_12 (r0) rfl ?_
    refine g_iload_n hX dX3_ring_43 rfl rfl ?_
    refine g_aload hX dX3_ring_44 rfl ?_
    refine g_iload_n hX dX3_ring_46 rfl rfl ?_
    refine g_aload_n hX dX3_ring_47 rfl rfl ?_
    refine g_getf hX dX3_ring_48 fl_X3_22 (r0) rfl ?_
    refine g_callV (As := [.int (nI b), .ref c, .int (nI L), .ref 19]) hX dX3_ring_51 cb_X2_ringTouch ml_X3_163 im_X2_ringTouch se_X2_ringTouch rfl rfl (f0) ⟨_, rfl, rfl⟩ (kX2_ringTouch hst (f0) (fsk) (fvt) (fti) (ffa) (ftf) (fst) (g0) (g1) (g2) (g3) (g4) (l0) (l1) (by omega) (by omega) (by omega) (by omega) (by omega) (by omega) hso hch) (Nat.le_of_ble_eq_true rfl) (Nat.le_of_ble_eq_true rfl) (by omega) (by omega) (Nat.le_of_ble_eq_true rfl) GX.no (pq ?_)
    show GW X 54 [some (.ref 0), some (.int (nI b)), some (.int (nI k)), some (.int (nI L)), some (.ref c), none] [.int (ringF (ringI st sk ti fa ch ma rc b m L))] (putT (hs (hs (hs (hs h (1 + 3) (aI 20 (vtI st (ringI st sk ti fa ch ma rc b m L).2.2.2 rc b (moreI (ringI st sk ti fa ch ma rc b m L).1.1 (ringF (ringI st sk ti fa ch ma rc b m L)) L) vt))) (1 + 4) (aI 20 ((ringI st sk ti fa ch ma rc b m L).2.1))) (1 + 5) (aI 20 ((ringI st sk ti fa ch ma rc b m L).2.2.1))) (1 + 6) (aI 20 ((ringI st sk ti fa ch ma rc b m L).2.2.2))) 19 ((ringI st sk ti fa ch ma rc b m L).1)) n 0 0
    refine g_istore hX dX3_ring_54 (Nat.le_of_ble_eq_true rfl) rfl ?_
    refine g_aload_n hX dX3_ring_56 rfl rfl ?_
    refine g_dup hX dX3_ring_57 rfl ?_
    refine g_getf hX dX3_ring_58 fl_X3_167 ((putT_ne (by omega)).trans ((hs_ne (by omega)).trans ((hs_ne (by omega)).trans ((hs_ne (by omega)).trans ((hs_ne (by omega)).trans (r0)))))) rfl ?_
    refine g_iconst (v := (nI 1)) hX dX3_ring_61 (by decide) ?_
    refine g_iadd hX dX3_ring_62 ?_
    refine g_putI hX dX3_ring_63 fl_X3_167 ((putT_ne (by omega)).trans ((hs_ne (by omega)).trans ((hs_ne (by omega)).trans ((hs_ne (by omega)).trans ((hs_ne (by omega)).trans (r0)))))) (Nat.le_of_ble_eq_true rfl) ?_
    show GW X 66 [some (.ref 0), some (.int (nI b)), some (.int (nI k)), some (.int (nI L)), some (.ref c), some (.int (ringF (ringI st sk ti fa ch ma rc b m L)))] [] (hs (putT (hs (hs (hs (hs h (1 + 3) (aI 20 (vtI st (ringI st sk ti fa ch ma rc b m L).2.2.2 rc b (moreI (ringI st sk ti fa ch ma rc b m L).1.1 (ringF (ringI st sk ti fa ch ma rc b m L)) L) vt))) (1 + 4) (aI 20 ((ringI st sk ti fa ch ma rc b m L).2.1))) (1 + 5) (aI 20 ((ringI st sk ti fa ch ma rc b m L).2.2.1))) (1 + 6) (aI 20 ((ringI st sk ti fa ch ma rc b m L).2.2.2))) 19 ((ringI st sk ti fa ch ma rc b m L).1)) 0 (oB 3 [.ref 1, .ref 10, .ref 19, .ref 24, .int (nI mc), .int (tch + (nI 1)), .int frs])) n 0 0
    refine g_aload_n hX dX3_ring_66 rfl rfl ?_
    refine g_dup hX dX3_ring_67 rfl ?_
    refine g_getf hX dX3_ring_68 fl_X3_170 (hs_eq _ _ _) rfl ?_
    refine g_iload hX dX3_ring_71 rfl ?_
    refine g_iadd hX dX3_ring_73 ?_
    refine g_putI hX dX3_ring_74 fl_X3_170 (hs_eq _ _ _) (Nat.le_of_ble_eq_true rfl) ?_
    refine g_cg rfl hs_hs ?_
    show GW X 77 [some (.ref 0), some (.int (nI b)), some (.int (nI k)), some (.int (nI L)), some (.ref c), some (.int (ringF (ringI st sk ti fa ch ma rc b m L)))] [] (hs (putT (hs (hs (hs (hs h (1 + 3) (aI 20 (vtI st (ringI st sk ti fa ch ma rc b m L).2.2.2 rc b (moreI (ringI st sk ti fa ch ma rc b m L).1.1 (ringF (ringI st sk ti fa ch ma rc b m L)) L) vt))) (1 + 4) (aI 20 ((ringI st sk ti fa ch ma rc b m L).2.1))) (1 + 5) (aI 20 ((ringI st sk ti fa ch ma rc b m L).2.2.1))) (1 + 6) (aI 20 ((ringI st sk ti fa ch ma rc b m L).2.2.2))) 19 ((ringI st sk ti fa ch ma rc b m L).1)) 0 (oB 3 [.ref 1, .ref 10, .ref 19, .ref 24, .int (nI mc), .int (tch + (nI 1)), .int (frs + (ringF (ringI st sk ti fa ch ma rc b m L)))])) n 0 0
    refine g_iload hX dX3_ring_77 rfl ?_
    refine g_ireturn hX hr dX3_ring_79 (by omega) (by omega)  ?_
    exact ⟨c1, rfl, rfl, fun j hj => Eq.trans (congrFun (show (hs (putT (hs (hs (hs (hs h (1 + 3) (aI 20 (vtI st (ringI st sk ti fa ch ma rc b m L).2.2.2 rc b (moreI (ringI st sk ti fa ch ma rc b m L).1.1 (ringF (ringI st sk ti fa ch ma rc b m L)) L) vt))) (1 + 4) (aI 20 ((ringI st sk ti fa ch ma rc b m L).2.1))) (1 + 5) (aI 20 ((ringI st sk ti fa ch ma rc b m L).2.2.1))) (1 + 6) (aI 20 ((ringI st sk ti fa ch ma rc b m L).2.2.2))) 19 ((ringI st sk ti fa ch ma rc b m L).1)) 0 (oB 3 [.ref 1, .ref 10, .ref 19, .ref 24, .int (nI mc), .int (tch + (nI 1)), .int (frs + (ringF (ringI st sk ti fa ch ma rc b m L)))])) = (putT (hs (hs (hs (hs (hs h 0 (oB 3 [.ref 1, .ref 10, .ref 19, .ref 24, .int (nI mc), .int (tch + (nI 1)), .int (frs + (ringF (ringI st sk ti fa ch ma rc b m L)))])) (1 + 3) (aI 20 (vtI st (ringI st sk ti fa ch ma rc b m L).2.2.2 rc b (moreI (ringI st sk ti fa ch ma rc b m L).1.1 (ringF (ringI st sk ti fa ch ma rc b m L)) L) vt))) (1 + 4) (aI 20 ((ringI st sk ti fa ch ma rc b m L).2.1))) (1 + 5) (aI 20 ((ringI st sk ti fa ch ma rc b m L).2.2.1))) (1 + 6) (aI 20 ((ringI st sk ti fa ch ma rc b m L).2.2.2))) 19 ((ringI st sk ti fa ch ma rc b m L).1)) from (by first | (rw [putT_lo (k := 0) (u := 19) (by omega), hs_cm (k := 0) (j := 1 + 6) _ _ _ (by omega), hs_cm (k := 0) (j := 1 + 5) _ _ _ (by omega), hs_cm (k := 0) (j := 1 + 4) _ _ _ (by omega), hs_cm (k := 0) (j := 1 + 3) _ _ _ (by omega)]; done) | (rw [putT_lo (k := 0) (u := 19) (by omega), hs_cm (k := 0) (j := 1 + 6) _ _ _ (by omega), hs_cm (k := 0) (j := 1 + 5) _ _ _ (by omega), hs_cm (k := 0) (j := 1 + 4) _ _ _ (by omega), hs_cm (k := 0) (j := 1 + 3) _ _ _ (by omega)]; rfl))) j) ((putT_ne (by omega)).trans (hs_cgj (hs_cgj (hs_cgj (hs_cgj (hs_cgj (rfl))))))), ⟨_, _, _, _, _, _, _, _, _, _, ((hs_ne (by omega)).trans ((putT_ne (by omega)).trans ((hs_ne (by omega)).trans ((hs_ne (by omega)).trans ((hs_ne (by omega)).trans ((hs_ne (by omega)).trans (o0))))))), ((hs_ne (by omega)).trans ((putT_ne (by omega)).trans ((hs_ne (by omega)).trans ((hs_ne (by omega)).trans ((hs_ne (by omega)).trans ((hs_ne (by omega)).trans (owd))))))), ((hs_ne (by omega)).trans ((putT_ne (by omega)).trans ((hs_ne (by omega)).trans ((hs_ne (by omega)).trans ((hs_ne (by omega)).trans ((hs_ne (by omega)).trans (osk))))))), ((hs_ne (by omega)).trans ((putT_ne (by omega)).trans ((hs_ne (by omega)).trans ((hs_ne (by omega)).trans ((hs_ne (by omega)).trans ((hs_ne (by omega)).trans (ovt))))))), ((hs_ne (by omega)).trans ((putT_ne (by omega)).trans ((hs_ne (by omega)).trans ((hs_ne (by omega)).trans ((hs_ne (by omega)).trans ((hs_ne (by omega)).trans (oti))))))), ((hs_ne (by omega)).trans ((putT_ne (by omega)).trans ((hs_ne (by omega)).trans ((hs_ne (by omega)).trans ((hs_ne (by omega)).trans ((hs_ne (by omega)).trans (ofa))))))), ((hs_ne (by omega)).trans ((putT_ne (by omega)).trans ((hs_ne (by omega)).trans ((hs_ne (by omega)).trans ((hs_ne (by omega)).trans ((hs_ne (by omega)).trans (otf))))))), ((hs_ne (by omega)).trans ((putT_ne (by omega)).trans ((hs_ne (by omega)).trans ((hs_ne (by omega)).trans ((hs_ne (by omega)).trans ((hs_ne (by omega)).trans (ost))))))), ((hs_ne (by omega)).trans ((putT_ne (by omega)).trans ((hs_ne (by omega)).trans ((hs_ne (by omega)).trans ((hs_ne (by omega)).trans ((hs_ne (by omega)).trans (ows)))))))⟩, ⟨_, _, _, _, _, _, ((hs_ne (by omega)).trans (putT_0)), ((hs_ne (by omega)).trans (putT_1)), ((hs_ne (by omega)).trans (putT_2)), ((hs_ne (by omega)).trans (putT_3)), ((hs_ne (by omega)).trans (putT_4))⟩⟩
  · refine g_throwS hX hr hE.1 ts_45_161_49 dX3_ring_29 dX3_ring_32 dX3_ring_33 dX3_ring_35 dX3_ring_38 (Nat.le_of_ble_eq_true rfl) (Nat.le_of_ble_eq_true rfl) (by omega) (by omega) ?_
    exact ⟨c1, rfl, rfl, rfl⟩
set_option maxRecDepth 20000 in
theorem kX3_would {l : Launch} {K : gw_K} (hst : l.stackTraces = false) {rc mc n : Nat} {dy tch frs : Int32} {h : gw_H} {wd sk vt ti fa st ws : Nat → Int32} {orc : Nat} {ody : Int32} {owd osk ovt oti ofa otf ost ows : Nat → Int32} {pl mv ma : Nat → Int32} {sn : Nat → Int64} {cm rr : Int32} {c m : Nat} {ld rw_ fr ho : Int32} {ch dg : Nat → Int32} {b k L : Nat} (r0 : h 0 = (oB 3 [.ref 1, .ref 10, .ref 19, .ref 24, .int (nI mc), .int tch, .int frs])) (f0 : h 1 = (oB 2 [.ref (1 + 1), .ref (1 + 2), .ref (1 + 3), .ref (1 + 4), .ref (1 + 5), .ref (1 + 6), .ref (1 + 7), .ref (1 + 8), .int (nI rc), .int dy])) (fwd : h (1 + 1) = (aI 20 wd)) (fsk : h (1 + 2) = (aI 20 sk)) (fvt : h (1 + 3) = (aI 20 vt)) (fti : h (1 + 4) = (aI 20 ti)) (ffa : h (1 + 5) = (aI 20 fa)) (fst : h (1 + 7) = (aI 20 st)) (fws : h (1 + 8) = (aI 18 ws)) (o0 : h 10 = (oB 2 [.ref (10 + 1), .ref (10 + 2), .ref (10 + 3), .ref (10 + 4), .ref (10 + 5), .ref (10 + 6), .ref (10 + 7), .ref (10 + 8), .int (nI orc), .int ody])) (owd : h (10 + 1) = (aI 20 owd)) (osk : h (10 + 2) = (aI 20 osk)) (ovt : h (10 + 3) = (aI 20 ovt)) (oti : h (10 + 4) = (aI 20 oti)) (ofa : h (10 + 5) = (aI 20 ofa)) (otf : h (10 + 6) = (aI 20 otf)) (ost : h (10 + 7) = (aI 20 ost)) (ows : h (10 + 8) = (aI 18 ows)) (g0 : h 19 = (oB 1 [.ref (19 + 1), .ref (19 + 2), .ref (19 + 3), .ref (19 + 4), .int cm, .int rr])) (g1 : h (19 + 1) = (aI 6 pl)) (g2 : h (19 + 2) = (aI 6 mv)) (g3 : h (19 + 3) = (aI 6 ma)) (g4 : h (19 + 4) = (aJ 122 sn)) (l0 : h c = (oB 0 [.ref (c + 1), .ref (c + 2), .int (nI m), .int ld, .int rw_, .int fr, .int ho])) (l1 : h (c + 1) = (aI 12 ch)) (l2 : h (c + 2) = (aI 6 dg)) (la : h 24 = (aQ 5 lsF)) (hrc : rc ≤ 20) (hk : k < mc) (hm5 : mc ≤ 5) (hck : c = 25 + 3 * k) (hm12 : m ≤ 12) (hb3 : b < 3) (hL1 : 1 ≤ L) (hL12 : L ≤ 12) (hso : ∀ r, r < rc → seatOK (st r)) (hch : ∀ i, i < m → vchg (ch i)) : Ctr l K mX3_would [.ref 0, .int (nI b), .int (nI k), .int (nI L)] h n 1 6 (PS (some (.int (brought wd vt ws st sk ti fa ch ma rc b m L))) h n) (PX0) := by
  refine Ctr.of hst pn_X3_would (Nat.le_of_ble_eq_true rfl) (fun X hX hr hE => ?_)
  have hX : FX l K X cX3_would RX3 8 132 1 6 := hX
  show GW X 0 [some (.ref 0), some (.int (nI b)), some (.int (nI k)), some (.int (nI L)), none] [] h n 0 0
  refine g_iload_n hX dX3_would_0 rfl rfl ?_
  refine g_iconst (v := (nI 3)) hX dX3_would_1 (by decide) ?_
  refine g_callS (As := [.int (nI b), .int (nI 3)]) hX dX3_would_2 cb_X3_requireIndex ml_X3_33 st_X3_requireIndex rfl rfl (kX3_requireIndex hst (gn_okI hb3 (by omega))) (Nat.le_of_ble_eq_true rfl) (Nat.le_of_ble_eq_true rfl) (by omega) (by omega) (Nat.le_of_ble_eq_true rfl) GX.no (pq ?_)
  show GW X 5 [some (.ref 0), some (.int (nI b)), some (.int (nI k)), some (.int (nI L)), none] [] h n 0 0
  refine g_aload_n hX dX3_would_5 rfl rfl ?_
  refine g_iload_n hX dX3_would_6 rfl rfl ?_
  refine g_callV (As := [.int (nI k)]) hX dX3_would_7 cb_X3_listNumbered ml_X3_115 im_X3_listNumbered se_X3_listNumbered rfl rfl (r0) ⟨_, rfl, rfl⟩ (kX3_listNumbered hst (r0) (la) (by omega) (by omega) (hck)) (Nat.le_of_ble_eq_true rfl) (Nat.le_of_ble_eq_true rfl) (by omega) (by omega) (Nat.le_of_ble_eq_true rfl) GX.no (pq ?_)
  show GW X 10 [some (.ref 0), some (.int (nI b)), some (.int (nI k)), some (.int (nI L)), none] [.ref c] h n 0 0
  refine g_astore hX dX3_would_10 (Nat.le_of_ble_eq_true rfl) rfl ?_
  refine g_iload_n hX dX3_would_12 rfl rfl ?_
  refine g_iconst (v := (nI 1)) hX dX3_would_13 (by decide) ?_
  refine g_bipush (v := (nI 12)) hX dX3_would_14 (by decide) ?_
  refine g_callS (As := [.int (nI L), .int (nI 1), .int (nI 12)]) hX dX3_would_16 cb_X3_requireWithin ml_X3_37 st_X3_requireWithin rfl rfl (kX3_requireWithin hst (gn_okW hL1 hL12 (by omega))) (Nat.le_of_ble_eq_true rfl) (Nat.le_of_ble_eq_true rfl) (by omega) (by omega) (Nat.le_of_ble_eq_true rfl) GX.no (pq ?_)
  show GW X 19 [some (.ref 0), some (.int (nI b)), some (.int (nI k)), some (.int (nI L)), some (.ref c)] [] h n 0 0
  refine g_aload_n hX dX3_would_19 rfl rfl ?_
  refine g_iload_n hX dX3_would_20 rfl rfl ?_
  refine g_aload hX dX3_would_21 rfl ?_
  refine g_iload_n hX dX3_would_23 rfl rfl ?_
  refine g_callV (As := [.int (nI b), .ref c, .int (nI L)]) hX dX3_would_24 cb_X3_votesBrought ml_X3_173 im_X3_votesBrought se_X3_votesBrought rfl rfl (r0) ⟨_, rfl, rfl⟩ (kX3_votesBrought hst (l0) (l1) (r0) (f0) (fwd) (fsk) (fvt) (fti) (ffa) (fst) (fws) (o0) (owd) (osk) (ovt) (oti) (ofa) (otf) (ost) (ows) (g0) (g1) (g2) (g3) (g4) (by omega) (by omega) (by omega) (by omega) (by omega) hso hch) (Nat.le_of_ble_eq_true rfl) (Nat.le_of_ble_eq_true rfl) (by omega) (by omega) (Nat.le_of_ble_eq_true rfl) GX.no ?_
  rintro _ h1 _ - ⟨rfl, rfl, hk2⟩
  show GW X 27 [some (.ref 0), some (.int (nI b)), some (.int (nI k)), some (.int (nI L)), some (.ref c)] [.int (brought wd vt ws st sk ti fa ch ma rc b m L)] h1 n 0 0
  obtain ⟨hk2K, ⟨owd1, osk1, ovt1, oti1, ofa1, otf1, ost1, ows1, orc1, ody1, o0_1, o1_1, o2_1, o3_1, o4_1, o5_1, o6_1, o7_1, o8_1⟩, ⟨pl1, mv1, ma1, sn1, cm1, rr1, g0_1, g1_1, g2_1, g3_1, g4_1⟩⟩ := hk2
  refine g_ireturn hX hr dX3_would_27 (by omega) (by omega)  ?_
  exact ⟨rfl, rfl, fun j hj => (hk2K j hj).trans (rfl), ⟨_, _, _, _, _, _, _, _, _, _, o0_1, o1_1, o2_1, o3_1, o4_1, o5_1, o6_1, o7_1, o8_1⟩, ⟨_, _, _, _, _, _, g0_1, g1_1, g2_1, g3_1, g4_1⟩⟩
set_option maxRecDepth 20000 in
theorem kX3_count0 {l : Launch} {K : gw_K} (hst : l.stackTraces = false) {rc mc n : Nat} {dy tch frs : Int32} {h : gw_H} {vt fa st : Nat → Int32} {q : Nat} (r0 : h 0 = (oB 3 [.ref 1, .ref 10, .ref 19, .ref 24, .int (nI mc), .int tch, .int frs])) (f0 : h 1 = (oB 2 [.ref (1 + 1), .ref (1 + 2), .ref (1 + 3), .ref (1 + 4), .ref (1 + 5), .ref (1 + 6), .ref (1 + 7), .ref (1 + 8), .int (nI rc), .int dy])) (fvt : h (1 + 3) = (aI 20 vt)) (ffa : h (1 + 5) = (aI 20 fa)) (fst : h (1 + 7) = (aI 20 st)) (hrc : rc ≤ 20) (hq : q < 9) : Ctr l K mX3_count [.ref 0, .int (nI q)] h n 0 0 (PQ (some (.int (countT vt fa st rc mc dy tch frs q))) h n) (PX0) := by
  refine Ctr.of hst pn_X3_count (Nat.le_of_ble_eq_true rfl) (fun X hX hr hE => ?_)
  have hX : FX l K X cX3_count RX3 7 111 0 0 := hX
  show GW X 0 [some (.ref 0), some (.int (nI q))] [] h n 0 0
  refine g_iload_n hX dX3_count_0 rfl rfl ?_
  refine g_bipush (v := (nI 9)) hX dX3_count_1 (by decide) ?_
  refine g_callS (As := [.int (nI q), .int (nI 9)]) hX dX3_count_3 cb_X3_requireIndex ml_X3_33 st_X3_requireIndex rfl rfl (kX3_requireIndex hst (gn_okI hq (by omega))) (Nat.le_of_ble_eq_true rfl) (Nat.le_of_ble_eq_true rfl) (by omega) (by omega) (Nat.le_of_ble_eq_true rfl) GX.no (pq ?_)
  show GW X 6 [some (.ref 0), some (.int (nI q))] [] h n 0 0
  refine g_iload_n hX dX3_count_6 rfl rfl ?_
  rcases (show q = 0 ∨ q = 1 ∨ q = 2 ∨ q = 3 ∨ q = 4 ∨ q = 5 ∨ q = 6 ∨ q = 7 ∨ q = 8 by omega) with rfl | rfl | rfl | rfl | rfl | rfl | rfl | rfl | rfl
  · refine g_tableIn (tgt := 52) hX dX3_count_7 (by decide) (by decide) rfl (by decide) ?_
    refine g_aload_n hX dX3_count_52 rfl rfl ?_
    refine g_getf hX dX3_count_53 fl_X3_12 (r0) rfl ?_
    refine g_getf hX dX3_count_56 fl_X3_180 (f0) rfl ?_
    refine g_ireturn hX hr dX3_count_59 (Nat.le_refl _) (Nat.le_refl _)  ?_
    exact ⟨rfl, rfl, rfl⟩
  · refine g_tableIn (tgt := 60) hX dX3_count_7 (by decide) (by decide) rfl (by decide) ?_
    refine g_aload_n hX dX3_count_60 rfl rfl ?_
    refine g_getf hX dX3_count_61 fl_X3_12 (r0) rfl ?_
    refine g_getf hX dX3_count_64 fl_X3_41 (f0) rfl ?_
    refine g_ireturn hX hr dX3_count_67 (Nat.le_refl _) (Nat.le_refl _)  ?_
    exact ⟨rfl, rfl, rfl⟩
  · refine g_tableIn (tgt := 68) hX dX3_count_7 (by decide) (by decide) rfl (by decide) ?_
    refine g_aload_n hX dX3_count_68 rfl rfl ?_
    refine g_getf hX dX3_count_69 fl_X3_12 (r0) rfl ?_
    refine g_callV (As := []) hX dX3_count_72 cb_X2_ringersAtBells ml_X3_183 im_X2_ringersAtBells se_X2_ringersAtBells rfl rfl (f0) ⟨_, rfl, rfl⟩ (kX2_ringersAtBells hst (f0) (fst) (by omega)) (Nat.le_of_ble_eq_true rfl) (Nat.le_of_ble_eq_true rfl) (by omega) (by omega) (Nat.le_of_ble_eq_true rfl) GX.no (pq ?_)
    show GW X 75 [some (.ref 0), some (.int (nI 2))] [.int (busyI st rc)] h n 0 0
    refine g_ireturn hX hr dX3_count_75 (Nat.le_refl _) (Nat.le_refl _)  ?_
    exact ⟨rfl, rfl, rfl⟩
  · refine g_tableIn (tgt := 76) hX dX3_count_7 (by decide) (by decide) rfl (by decide) ?_
    refine g_aload_n hX dX3_count_76 rfl rfl ?_
    refine g_getf hX dX3_count_77 fl_X3_110 (r0) rfl ?_
    refine g_ireturn hX hr dX3_count_80 (Nat.le_refl _) (Nat.le_refl _)  ?_
    exact ⟨rfl, rfl, rfl⟩
  · refine g_tableIn (tgt := 81) hX dX3_count_7 (by decide) (by decide) rfl (by decide) ?_
    refine g_aload_n hX dX3_count_81 rfl rfl ?_
    refine g_getf hX dX3_count_82 fl_X3_12 (r0) rfl ?_
    refine g_callV (As := []) hX dX3_count_85 cb_X2_fullBands ml_X3_186 im_X2_fullBands se_X2_fullBands rfl rfl (f0) ⟨_, rfl, rfl⟩ (kX2_fullBands hst (f0) (fst) (by omega)) (Nat.le_of_ble_eq_true rfl) (Nat.le_of_ble_eq_true rfl) (by omega) (by omega) (Nat.le_of_ble_eq_true rfl) GX.no (pq ?_)
    show GW X 88 [some (.ref 0), some (.int (nI 4))] [.int (fullI st rc)] h n 0 0
    refine g_ireturn hX hr dX3_count_88 (Nat.le_refl _) (Nat.le_refl _)  ?_
    exact ⟨rfl, rfl, rfl⟩
  · refine g_tableIn (tgt := 89) hX dX3_count_7 (by decide) (by decide) rfl (by decide) ?_
    refine g_aload_n hX dX3_count_89 rfl rfl ?_
    refine g_getf hX dX3_count_90 fl_X3_167 (r0) rfl ?_
    refine g_ireturn hX hr dX3_count_93 (Nat.le_refl _) (Nat.le_refl _)  ?_
    exact ⟨rfl, rfl, rfl⟩
  · refine g_tableIn (tgt := 94) hX dX3_count_7 (by decide) (by decide) rfl (by decide) ?_
    refine g_aload_n hX dX3_count_94 rfl rfl ?_
    refine g_getf hX dX3_count_95 fl_X3_170 (r0) rfl ?_
    refine g_ireturn hX hr dX3_count_98 (Nat.le_refl _) (Nat.le_refl _)  ?_
    exact ⟨rfl, rfl, rfl⟩
  · refine g_tableIn (tgt := 99) hX dX3_count_7 (by decide) (by decide) rfl (by decide) ?_
    refine g_aload_n hX dX3_count_99 rfl rfl ?_
    refine g_getf hX dX3_count_100 fl_X3_12 (r0) rfl ?_
    refine g_callV (As := []) hX dX3_count_103 cb_X2_allFaults ml_X3_189 im_X2_allFaults se_X2_allFaults rfl rfl (f0) ⟨_, rfl, rfl⟩ (kX2_allFaults hst (f0) (ffa) (by omega)) (Nat.le_of_ble_eq_true rfl) (Nat.le_of_ble_eq_true rfl) (by omega) (by omega) (Nat.le_of_ble_eq_true rfl) GX.no (pq ?_)
    show GW X 106 [some (.ref 0), some (.int (nI 7))] [.int (sumI fa rc)] h n 0 0
    refine g_ireturn hX hr dX3_count_106 (Nat.le_refl _) (Nat.le_refl _)  ?_
    exact ⟨rfl, rfl, rfl⟩
  · refine g_tableOut (tgt := 107) hX dX3_count_7 (by decide) (by decide) ?_
    refine g_aload_n hX dX3_count_107 rfl rfl ?_
    refine g_getf hX dX3_count_108 fl_X3_12 (r0) rfl ?_
    refine g_callV (As := []) hX dX3_count_111 cb_X2_allVotes ml_X3_192 im_X2_allVotes se_X2_allVotes rfl rfl (f0) ⟨_, rfl, rfl⟩ (kX2_allVotes hst (f0) (fvt) (by omega)) (Nat.le_of_ble_eq_true rfl) (Nat.le_of_ble_eq_true rfl) (by omega) (by omega) (Nat.le_of_ble_eq_true rfl) GX.no (pq ?_)
    show GW X 114 [some (.ref 0), some (.int (nI 8))] [.int (sumI vt rc)] h n 0 0
    refine g_ireturn hX hr dX3_count_114 (Nat.le_refl _) (Nat.le_refl _)  ?_
    exact ⟨rfl, rfl, rfl⟩
set_option maxRecDepth 20000 in
theorem kX3_count {l : Launch} {K : gw_K} (hst : l.stackTraces = false) {rc mc n : Nat} {dy tch frs : Int32} {h : gw_H} {vt fa st : Nat → Int32} {q : Nat} (r0 : h 0 = (oB 3 [.ref 1, .ref 10, .ref 19, .ref 24, .int (nI mc), .int tch, .int frs])) (f0 : h 1 = (oB 2 [.ref (1 + 1), .ref (1 + 2), .ref (1 + 3), .ref (1 + 4), .ref (1 + 5), .ref (1 + 6), .ref (1 + 7), .ref (1 + 8), .int (nI rc), .int dy])) (fvt : h (1 + 3) = (aI 20 vt)) (ffa : h (1 + 5) = (aI 20 fa)) (fst : h (1 + 7) = (aI 20 st)) (hrc : rc ≤ 20) (hq : q < 9) : Ctr l K mX3_count [.ref 0, .int (nI q)] h n 1 6 (PQ (some (.int (countT vt fa st rc mc dy tch frs q))) h n) (PX0) := by
  refine Ctr.of hst pn_X3_count (Nat.le_of_ble_eq_true rfl) (fun X hX hr hE => ?_)
  have hX : FX l K X cX3_count RX3 7 111 1 6 := hX
  show GW X 0 [some (.ref 0), some (.int (nI q))] [] h n 0 0
  refine g_iload_n hX dX3_count_0 rfl rfl ?_
  refine g_bipush (v := (nI 9)) hX dX3_count_1 (by decide) ?_
  refine g_callS (As := [.int (nI q), .int (nI 9)]) hX dX3_count_3 cb_X3_requireIndex ml_X3_33 st_X3_requireIndex rfl rfl (kX3_requireIndex hst (gn_okI hq (by omega))) (Nat.le_of_ble_eq_true rfl) (Nat.le_of_ble_eq_true rfl) (by omega) (by omega) (Nat.le_of_ble_eq_true rfl) GX.no (pq ?_)
  show GW X 6 [some (.ref 0), some (.int (nI q))] [] h n 0 0
  refine g_iload_n hX dX3_count_6 rfl rfl ?_
  rcases (show q = 0 ∨ q = 1 ∨ q = 2 ∨ q = 3 ∨ q = 4 ∨ q = 5 ∨ q = 6 ∨ q = 7 ∨ q = 8 by omega) with rfl | rfl | rfl | rfl | rfl | rfl | rfl | rfl | rfl
  · refine g_tableIn (tgt := 52) hX dX3_count_7 (by decide) (by decide) rfl (by decide) ?_
    refine g_aload_n hX dX3_count_52 rfl rfl ?_
    refine g_getf hX dX3_count_53 fl_X3_12 (r0) rfl ?_
    refine g_getf hX dX3_count_56 fl_X3_180 (f0) rfl ?_
    refine g_ireturn hX hr dX3_count_59 (by omega) (by omega)  ?_
    exact ⟨rfl, rfl, rfl⟩
  · refine g_tableIn (tgt := 60) hX dX3_count_7 (by decide) (by decide) rfl (by decide) ?_
    refine g_aload_n hX dX3_count_60 rfl rfl ?_
    refine g_getf hX dX3_count_61 fl_X3_12 (r0) rfl ?_
    refine g_getf hX dX3_count_64 fl_X3_41 (f0) rfl ?_
    refine g_ireturn hX hr dX3_count_67 (by omega) (by omega)  ?_
    exact ⟨rfl, rfl, rfl⟩
  · refine g_tableIn (tgt := 68) hX dX3_count_7 (by decide) (by decide) rfl (by decide) ?_
    refine g_aload_n hX dX3_count_68 rfl rfl ?_
    refine g_getf hX dX3_count_69 fl_X3_12 (r0) rfl ?_
    refine g_callV (As := []) hX dX3_count_72 cb_X2_ringersAtBells ml_X3_183 im_X2_ringersAtBells se_X2_ringersAtBells rfl rfl (f0) ⟨_, rfl, rfl⟩ (kX2_ringersAtBells hst (f0) (fst) (by omega)) (Nat.le_of_ble_eq_true rfl) (Nat.le_of_ble_eq_true rfl) (by omega) (by omega) (Nat.le_of_ble_eq_true rfl) GX.no (pq ?_)
    show GW X 75 [some (.ref 0), some (.int (nI 2))] [.int (busyI st rc)] h n 0 0
    refine g_ireturn hX hr dX3_count_75 (by omega) (by omega)  ?_
    exact ⟨rfl, rfl, rfl⟩
  · refine g_tableIn (tgt := 76) hX dX3_count_7 (by decide) (by decide) rfl (by decide) ?_
    refine g_aload_n hX dX3_count_76 rfl rfl ?_
    refine g_getf hX dX3_count_77 fl_X3_110 (r0) rfl ?_
    refine g_ireturn hX hr dX3_count_80 (by omega) (by omega)  ?_
    exact ⟨rfl, rfl, rfl⟩
  · refine g_tableIn (tgt := 81) hX dX3_count_7 (by decide) (by decide) rfl (by decide) ?_
    refine g_aload_n hX dX3_count_81 rfl rfl ?_
    refine g_getf hX dX3_count_82 fl_X3_12 (r0) rfl ?_
    refine g_callV (As := []) hX dX3_count_85 cb_X2_fullBands ml_X3_186 im_X2_fullBands se_X2_fullBands rfl rfl (f0) ⟨_, rfl, rfl⟩ (kX2_fullBands hst (f0) (fst) (by omega)) (Nat.le_of_ble_eq_true rfl) (Nat.le_of_ble_eq_true rfl) (by omega) (by omega) (Nat.le_of_ble_eq_true rfl) GX.no (pq ?_)
    show GW X 88 [some (.ref 0), some (.int (nI 4))] [.int (fullI st rc)] h n 0 0
    refine g_ireturn hX hr dX3_count_88 (by omega) (by omega)  ?_
    exact ⟨rfl, rfl, rfl⟩
  · refine g_tableIn (tgt := 89) hX dX3_count_7 (by decide) (by decide) rfl (by decide) ?_
    refine g_aload_n hX dX3_count_89 rfl rfl ?_
    refine g_getf hX dX3_count_90 fl_X3_167 (r0) rfl ?_
    refine g_ireturn hX hr dX3_count_93 (by omega) (by omega)  ?_
    exact ⟨rfl, rfl, rfl⟩
  · refine g_tableIn (tgt := 94) hX dX3_count_7 (by decide) (by decide) rfl (by decide) ?_
    refine g_aload_n hX dX3_count_94 rfl rfl ?_
    refine g_getf hX dX3_count_95 fl_X3_170 (r0) rfl ?_
    refine g_ireturn hX hr dX3_count_98 (by omega) (by omega)  ?_
    exact ⟨rfl, rfl, rfl⟩
  · refine g_tableIn (tgt := 99) hX dX3_count_7 (by decide) (by decide) rfl (by decide) ?_
    refine g_aload_n hX dX3_count_99 rfl rfl ?_
    refine g_getf hX dX3_count_100 fl_X3_12 (r0) rfl ?_
    refine g_callV (As := []) hX dX3_count_103 cb_X2_allFaults ml_X3_189 im_X2_allFaults se_X2_allFaults rfl rfl (f0) ⟨_, rfl, rfl⟩ (kX2_allFaults hst (f0) (ffa) (by omega)) (Nat.le_of_ble_eq_true rfl) (Nat.le_of_ble_eq_true rfl) (by omega) (by omega) (Nat.le_of_ble_eq_true rfl) GX.no (pq ?_)
    show GW X 106 [some (.ref 0), some (.int (nI 7))] [.int (sumI fa rc)] h n 0 0
    refine g_ireturn hX hr dX3_count_106 (by omega) (by omega)  ?_
    exact ⟨rfl, rfl, rfl⟩
  · refine g_tableOut (tgt := 107) hX dX3_count_7 (by decide) (by decide) ?_
    refine g_aload_n hX dX3_count_107 rfl rfl ?_
    refine g_getf hX dX3_count_108 fl_X3_12 (r0) rfl ?_
    refine g_callV (As := []) hX dX3_count_111 cb_X2_allVotes ml_X3_192 im_X2_allVotes se_X2_allVotes rfl rfl (f0) ⟨_, rfl, rfl⟩ (kX2_allVotes hst (f0) (fvt) (by omega)) (Nat.le_of_ble_eq_true rfl) (Nat.le_of_ble_eq_true rfl) (by omega) (by omega) (Nat.le_of_ble_eq_true rfl) GX.no (pq ?_)
    show GW X 114 [some (.ref 0), some (.int (nI 8))] [.int (sumI vt rc)] h n 0 0
    refine g_ireturn hX hr dX3_count_114 (by omega) (by omega)  ?_
    exact ⟨rfl, rfl, rfl⟩
set_option maxRecDepth 20000 in
theorem kX3_count_w {l : Launch} {K : gw_K} (hst : l.stackTraces = false) {rc mc n : Nat} {dy tch frs : Int32} {h : gw_H} {a : Int32} (r0 : h 0 = (oB 3 [.ref 1, .ref 10, .ref 19, .ref 24, .int (nI mc), .int tch, .int frs])) (f0 : h 1 = (oB 2 [.ref (1 + 1), .ref (1 + 2), .ref (1 + 3), .ref (1 + 4), .ref (1 + 5), .ref (1 + 6), .ref (1 + 7), .ref (1 + 8), .int (nI rc), .int dy])) (hz : a < 0 ∨ nI 9 ≤ a) : Ctr l K mX3_count [.ref 0, .int a] h n 1 6 (fun _ _ _ => False) (PXQ "java/lang/IndexOutOfBoundsException" h n) := by
  refine Ctr.of hst pn_X3_count (Nat.le_of_ble_eq_true rfl) (fun X hX hr hE => ?_)
  have hX : FX l K X cX3_count RX3 7 111 1 6 := hX
  show GW X 0 [some (.ref 0), some (.int a)] [] h n 0 0
  refine g_iload_n hX dX3_count_0 rfl rfl ?_
  refine g_bipush (v := (nI 9)) hX dX3_count_1 (by decide) ?_
  refine g_callS (As := [.int a, .int (nI 9)]) hX dX3_count_3 cb_X3_requireIndex ml_X3_33 st_X3_requireIndex rfl rfl (kX3_requireIndex_x hst (hz)) (Nat.le_of_ble_eq_true rfl) (Nat.le_of_ble_eq_true rfl) (by omega) (by omega) (Nat.le_of_ble_eq_true rfl) ?_ ?_
  · refine px ?_
    refine g_out hX hr hE.1 (by omega) (by omega) ?_
    exact ⟨rfl, rfl, rfl⟩
  · exact fun _ _ _ _ h => h.elim
set_option maxRecDepth 20000 in
theorem kX3_pass_d {l : Launch} {K : gw_K} (hst : l.stackTraces = false) {rc mc n : Nat} {dy tch frs : Int32} {h : gw_H} {a : Int32} (r0 : h 0 = (oB 3 [.ref 1, .ref 10, .ref 19, .ref 24, .int (nI mc), .int tch, .int frs])) (f0 : h 1 = (oB 2 [.ref (1 + 1), .ref (1 + 2), .ref (1 + 3), .ref (1 + 4), .ref (1 + 5), .ref (1 + 6), .ref (1 + 7), .ref (1 + 8), .int (nI rc), .int dy])) (hz : a < nI 1 ∨ nI 60 < a) : Ctr l K mX3_pass [.ref 0, .int a] h n 1 6 (fun _ _ _ => False) (PXQ "java/lang/IllegalArgumentException" h n) := by
  refine Ctr.of hst pn_X3_pass (Nat.le_of_ble_eq_true rfl) (fun X hX hr hE => ?_)
  have hX : FX l K X cX3_pass RX3 7 112 1 6 := hX
  show GW X 0 [some (.ref 0), some (.int a)] [] h n 0 0
  refine g_iload_n hX dX3_pass_0 rfl rfl ?_
  refine g_iconst (v := (nI 1)) hX dX3_pass_1 (by decide) ?_
  refine g_bipush (v := (nI 60)) hX dX3_pass_2 (by decide) ?_
  refine g_callS (As := [.int a, .int (nI 1), .int (nI 60)]) hX dX3_pass_4 cb_X3_requireWithin ml_X3_37 st_X3_requireWithin rfl rfl (kX3_requireWithin_x hst (hz)) (Nat.le_of_ble_eq_true rfl) (Nat.le_of_ble_eq_true rfl) (by omega) (by omega) (Nat.le_of_ble_eq_true rfl) ?_ ?_
  · refine px ?_
    refine g_out hX hr hE.1 (by omega) (by omega) ?_
    exact ⟨rfl, rfl, rfl⟩
  · exact fun _ _ _ _ h => h.elim
set_option maxRecDepth 20000 in
theorem kX3_pass {l : Launch} {K : gw_K} (hst : l.stackTraces = false) {rc mc n : Nat} {dy tch frs : Int32} {h : gw_H} {wd sk vt ti fa st ws : Nat → Int32} {orc : Nat} {ody : Int32} {owd osk ovt oti ofa otf ost ows : Nat → Int32} {pl mv ma : Nat → Int32} {sn : Nat → Int64} {cm rr : Int32} {d : Nat} (r0 : h 0 = (oB 3 [.ref 1, .ref 10, .ref 19, .ref 24, .int (nI mc), .int tch, .int frs])) (f0 : h 1 = (oB 2 [.ref (1 + 1), .ref (1 + 2), .ref (1 + 3), .ref (1 + 4), .ref (1 + 5), .ref (1 + 6), .ref (1 + 7), .ref (1 + 8), .int (nI rc), .int dy])) (fwd : h (1 + 1) = (aI 20 wd)) (fsk : h (1 + 2) = (aI 20 sk)) (fvt : h (1 + 3) = (aI 20 vt)) (fti : h (1 + 4) = (aI 20 ti)) (ffa : h (1 + 5) = (aI 20 fa)) (fst : h (1 + 7) = (aI 20 st)) (fws : h (1 + 8) = (aI 18 ws)) (o0 : h 10 = (oB 2 [.ref (10 + 1), .ref (10 + 2), .ref (10 + 3), .ref (10 + 4), .ref (10 + 5), .ref (10 + 6), .ref (10 + 7), .ref (10 + 8), .int (nI orc), .int ody])) (owd : h (10 + 1) = (aI 20 owd)) (osk : h (10 + 2) = (aI 20 osk)) (ovt : h (10 + 3) = (aI 20 ovt)) (oti : h (10 + 4) = (aI 20 oti)) (ofa : h (10 + 5) = (aI 20 ofa)) (otf : h (10 + 6) = (aI 20 otf)) (ost : h (10 + 7) = (aI 20 ost)) (ows : h (10 + 8) = (aI 18 ows)) (g0 : h 19 = (oB 1 [.ref (19 + 1), .ref (19 + 2), .ref (19 + 3), .ref (19 + 4), .int cm, .int rr])) (g1 : h (19 + 1) = (aI 6 pl)) (g2 : h (19 + 2) = (aI 6 mv)) (g3 : h (19 + 3) = (aI 6 ma)) (g4 : h (19 + 4) = (aJ 122 sn)) (hrc : rc ≤ 20) (hd1 : 1 ≤ d) (hd60 : d ≤ 60) : Ctr l K mX3_pass [.ref 0, .int (nI d)] h n 1 6 (PS (some (.int (movedI (daysI wd vt ws rc d (ti, st, dy)).2.1 st rc))) (hs (hs (hs h 1 (oB 2 [.ref (1 + 1), .ref (1 + 2), .ref (1 + 3), .ref (1 + 4), .ref (1 + 5), .ref (1 + 6), .ref (1 + 7), .ref (1 + 8), .int (nI rc), .int ((daysI wd vt ws rc d (ti, st, dy)).2.2)])) (1 + 4) (aI 20 ((daysI wd vt ws rc d (ti, st, dy)).1))) (1 + 7) (aI 20 ((daysI wd vt ws rc d (ti, st, dy)).2.1))) n) (PX0) := by
  refine Ctr.of hst pn_X3_pass (Nat.le_of_ble_eq_true rfl) (fun X hX hr hE => ?_)
  have hX : FX l K X cX3_pass RX3 7 112 1 6 := hX
  show GW X 0 [some (.ref 0), some (.int (nI d))] [] h n 0 0
  refine g_iload_n hX dX3_pass_0 rfl rfl ?_
  refine g_iconst (v := (nI 1)) hX dX3_pass_1 (by decide) ?_
  refine g_bipush (v := (nI 60)) hX dX3_pass_2 (by decide) ?_
  refine g_callS (As := [.int (nI d), .int (nI 1), .int (nI 60)]) hX dX3_pass_4 cb_X3_requireWithin ml_X3_37 st_X3_requireWithin rfl rfl (kX3_requireWithin hst (gn_okW hd1 hd60 (by omega))) (Nat.le_of_ble_eq_true rfl) (Nat.le_of_ble_eq_true rfl) (by omega) (by omega) (Nat.le_of_ble_eq_true rfl) GX.no (pq ?_)
  show GW X 7 [some (.ref 0), some (.int (nI d))] [] h n 0 0
  refine g_aload_n hX dX3_pass_7 rfl rfl ?_
  refine g_getf hX dX3_pass_8 fl_X3_16 (r0) rfl ?_
  refine g_aload_n hX dX3_pass_11 rfl rfl ?_
  refine g_getf hX dX3_pass_12 fl_X3_12 (r0) rfl ?_
  refine g_callV (As := [.ref 1]) hX dX3_pass_15 cb_X2_copyFrom ml_X3_106 im_X2_copyFrom se_X2_copyFrom rfl rfl (o0) ⟨_, rfl, rfl⟩ (kX2_copyFrom hst (o0) (owd) (osk) (ovt) (oti) (ofa) (ost) (ows) (f0) (fwd) (fsk) (fvt) (fti) (ffa) (fst) (fws) (by omega)) (Nat.le_of_ble_eq_true rfl) (Nat.le_of_ble_eq_true rfl) (by omega) (by omega) (Nat.le_of_ble_eq_true rfl) GX.no (pq ?_)
  show GW X 18 [some (.ref 0), some (.int (nI d))] [] (hs (hs (hs (hs (hs (hs (hs (hs h (10 + 1) (aI 20 wd)) (10 + 2) (aI 20 sk)) (10 + 3) (aI 20 vt)) (10 + 4) (aI 20 ti)) (10 + 5) (aI 20 fa)) (10 + 7) (aI 20 st)) (10 + 8) (aI 18 ws)) 10 (oB 2 [.ref (10 + 1), .ref (10 + 2), .ref (10 + 3), .ref (10 + 4), .ref (10 + 5), .ref (10 + 6), .ref (10 + 7), .ref (10 + 8), .int (nI rc), .int dy])) n 0 0
  refine g_aload_n hX dX3_pass_18 rfl rfl ?_
  refine g_getf hX dX3_pass_19 fl_X3_12 ((hs_ne (by omega)).trans ((hs_ne (by omega)).trans ((hs_ne (by omega)).trans ((hs_ne (by omega)).trans ((hs_ne (by omega)).trans ((hs_ne (by omega)).trans ((hs_ne (by omega)).trans ((hs_ne (by omega)).trans (r0))))))))) rfl ?_
  refine g_iload_n hX dX3_pass_22 rfl rfl ?_
  refine g_callV (As := [.int (nI d)]) hX dX3_pass_23 cb_X2_passDays ml_X3_195 im_X2_passDays se_X2_passDays rfl rfl ((hs_ne (by omega)).trans ((hs_ne (by omega)).trans ((hs_ne (by omega)).trans ((hs_ne (by omega)).trans ((hs_ne (by omega)).trans ((hs_ne (by omega)).trans ((hs_ne (by omega)).trans ((hs_ne (by omega)).trans (f0))))))))) ⟨_, rfl, rfl⟩ (kX2_passDays (z := (ti, st, dy)) hst ((hs_ne (by omega)).trans ((hs_ne (by omega)).trans ((hs_ne (by omega)).trans ((hs_ne (by omega)).trans ((hs_ne (by omega)).trans ((hs_ne (by omega)).trans ((hs_ne (by omega)).trans ((hs_ne (by omega)).trans (f0))))))))) ((hs_ne (by omega)).trans ((hs_ne (by omega)).trans ((hs_ne (by omega)).trans ((hs_ne (by omega)).trans ((hs_ne (by omega)).trans ((hs_ne (by omega)).trans ((hs_ne (by omega)).trans ((hs_ne (by omega)).trans (fwd))))))))) ((hs_ne (by omega)).trans ((hs_ne (by omega)).trans ((hs_ne (by omega)).trans ((hs_ne (by omega)).trans ((hs_ne (by omega)).trans ((hs_ne (by omega)).trans ((hs_ne (by omega)).trans ((hs_ne (by omega)).trans (fvt))))))))) ((hs_ne (by omega)).trans ((hs_ne (by omega)).trans ((hs_ne (by omega)).trans ((hs_ne (by omega)).trans ((hs_ne (by omega)).trans ((hs_ne (by omega)).trans ((hs_ne (by omega)).trans ((hs_ne (by omega)).trans (fti))))))))) ((hs_ne (by omega)).trans ((hs_ne (by omega)).trans ((hs_ne (by omega)).trans ((hs_ne (by omega)).trans ((hs_ne (by omega)).trans ((hs_ne (by omega)).trans ((hs_ne (by omega)).trans ((hs_ne (by omega)).trans (fst))))))))) ((hs_ne (by omega)).trans ((hs_ne (by omega)).trans ((hs_ne (by omega)).trans ((hs_ne (by omega)).trans ((hs_ne (by omega)).trans ((hs_ne (by omega)).trans ((hs_ne (by omega)).trans ((hs_ne (by omega)).trans (fws))))))))) (by omega) (by omega)) (Nat.le_of_ble_eq_true rfl) (Nat.le_of_ble_eq_true rfl) (by omega) (by omega) (Nat.le_of_ble_eq_true rfl) GX.no (pq ?_)
  show GW X 26 [some (.ref 0), some (.int (nI d))] [] (hs (hs (hs (hs (hs (hs (hs (hs (hs (hs (hs h (10 + 1) (aI 20 wd)) (10 + 2) (aI 20 sk)) (10 + 3) (aI 20 vt)) (10 + 4) (aI 20 ti)) (10 + 5) (aI 20 fa)) (10 + 7) (aI 20 st)) (10 + 8) (aI 18 ws)) 10 (oB 2 [.ref (10 + 1), .ref (10 + 2), .ref (10 + 3), .ref (10 + 4), .ref (10 + 5), .ref (10 + 6), .ref (10 + 7), .ref (10 + 8), .int (nI rc), .int dy])) 1 (oB 2 [.ref (1 + 1), .ref (1 + 2), .ref (1 + 3), .ref (1 + 4), .ref (1 + 5), .ref (1 + 6), .ref (1 + 7), .ref (1 + 8), .int (nI rc), .int ((daysI wd vt ws rc d (ti, st, dy)).2.2)])) (1 + 4) (aI 20 ((daysI wd vt ws rc d (ti, st, dy)).1))) (1 + 7) (aI 20 ((daysI wd vt ws rc d (ti, st, dy)).2.1))) n 0 0
  refine g_cg (h' := (hs (hs (hs (hs (hs (hs (hs (hs (hs (hs (hs h 1 (oB 2 [.ref (1 + 1), .ref (1 + 2), .ref (1 + 3), .ref (1 + 4), .ref (1 + 5), .ref (1 + 6), .ref (1 + 7), .ref (1 + 8), .int (nI rc), .int ((daysI wd vt ws rc d (ti, st, dy)).2.2)])) (1 + 4) (aI 20 ((daysI wd vt ws rc d (ti, st, dy)).1))) (1 + 7) (aI 20 ((daysI wd vt ws rc d (ti, st, dy)).2.1))) 10 (oB 2 [.ref (10 + 1), .ref (10 + 2), .ref (10 + 3), .ref (10 + 4), .ref (10 + 5), .ref (10 + 6), .ref (10 + 7), .ref (10 + 8), .int (nI rc), .int dy])) (10 + 1) (aI 20 wd)) (10 + 2) (aI 20 sk)) (10 + 3) (aI 20 vt)) (10 + 4) (aI 20 ti)) (10 + 5) (aI 20 fa)) (10 + 7) (aI 20 st)) (10 + 8) (aI 18 ws))) rfl (by rw [hs_cm (k := 10) (j := 10 + 8) _ _ _ (by omega), hs_cm (k := 10) (j := 10 + 7) _ _ _ (by omega), hs_cm (k := 10) (j := 10 + 5) _ _ _ (by omega), hs_cm (k := 10) (j := 10 + 4) _ _ _ (by omega), hs_cm (k := 10) (j := 10 + 3) _ _ _ (by omega), hs_cm (k := 10) (j := 10 + 2) _ _ _ (by omega), hs_cm (k := 10) (j := 10 + 1) _ _ _ (by omega), hs_cm (k := 1) (j := 10 + 8) _ _ _ (by omega), hs_cm (k := 1) (j := 10 + 7) _ _ _ (by omega), hs_cm (k := 1) (j := 10 + 5) _ _ _ (by omega), hs_cm (k := 1) (j := 10 + 4) _ _ _ (by omega), hs_cm (k := 1) (j := 10 + 3) _ _ _ (by omega), hs_cm (k := 1) (j := 10 + 2) _ _ _ (by omega), hs_cm (k := 1) (j := 10 + 1) _ _ _ (by omega), hs_cm (k := 1) (j := 10) _ _ _ (by omega), hs_cm (k := 1 + 4) (j := 10 + 8) _ _ _ (by omega), hs_cm (k := 1 + 4) (j := 10 + 7) _ _ _ (by omega), hs_cm (k := 1 + 4) (j := 10 + 5) _ _ _ (by omega), hs_cm (k := 1 + 4) (j := 10 + 4) _ _ _ (by omega), hs_cm (k := 1 + 4) (j := 10 + 3) _ _ _ (by omega), hs_cm (k := 1 + 4) (j := 10 + 2) _ _ _ (by omega), hs_cm (k := 1 + 4) (j := 10 + 1) _ _ _ (by omega), hs_cm (k := 1 + 4) (j := 10) _ _ _ (by omega), hs_cm (k := 1 + 7) (j := 10 + 8) _ _ _ (by omega), hs_cm (k := 1 + 7) (j := 10 + 7) _ _ _ (by omega), hs_cm (k := 1 + 7) (j := 10 + 5) _ _ _ (by omega), hs_cm (k := 1 + 7) (j := 10 + 4) _ _ _ (by omega), hs_cm (k := 1 + 7) (j := 10 + 3) _ _ _ (by omega), hs_cm (k := 1 + 7) (j := 10 + 2) _ _ _ (by omega), hs_cm (k := 1 + 7) (j := 10 + 1) _ _ _ (by omega), hs_cm (k := 1 + 7) (j := 10) _ _ _ (by omega)]) ?_
  refine g_aload_n hX dX3_pass_26 rfl rfl ?_
  refine g_getf hX dX3_pass_27 fl_X3_12 ((hs_ne (by omega)).trans ((hs_ne (by omega)).trans ((hs_ne (by omega)).trans ((hs_ne (by omega)).trans ((hs_ne (by omega)).trans ((hs_ne (by omega)).trans ((hs_ne (by omega)).trans ((hs_ne (by omega)).trans ((hs_ne (by omega)).trans ((hs_ne (by omega)).trans ((hs_ne (by omega)).trans (r0)))))))))))) rfl ?_
  refine g_aload_n hX dX3_pass_30 rfl rfl ?_
  refine g_getf hX dX3_pass_31 fl_X3_16 ((hs_ne (by omega)).trans ((hs_ne (by omega)).trans ((hs_ne (by omega)).trans ((hs_ne (by omega)).trans ((hs_ne (by omega)).trans ((hs_ne (by omega)).trans ((hs_ne (by omega)).trans ((hs_ne (by omega)).trans ((hs_ne (by omega)).trans ((hs_ne (by omega)).trans ((hs_ne (by omega)).trans (r0)))))))))))) rfl ?_
  refine g_callV (As := [.ref 10]) hX dX3_pass_34 cb_X2_seatedUnlike ml_X3_198 im_X2_seatedUnlike se_X2_seatedUnlike rfl rfl ((hs_ne (by omega)).trans ((hs_ne (by omega)).trans ((hs_ne (by omega)).trans ((hs_ne (by omega)).trans ((hs_ne (by omega)).trans ((hs_ne (by omega)).trans ((hs_ne (by omega)).trans ((hs_ne (by omega)).trans ((hs_ne (by omega)).trans ((hs_ne (by omega)).trans (hs_eq _ _ _))))))))))) ⟨_, rfl, rfl⟩ (kX2_seatedUnlike hst ((hs_ne (by omega)).trans ((hs_ne (by omega)).trans ((hs_ne (by omega)).trans ((hs_ne (by omega)).trans ((hs_ne (by omega)).trans ((hs_ne (by omega)).trans ((hs_ne (by omega)).trans ((hs_ne (by omega)).trans ((hs_ne (by omega)).trans ((hs_ne (by omega)).trans (hs_eq _ _ _))))))))))) ((hs_ne (by omega)).trans ((hs_ne (by omega)).trans ((hs_ne (by omega)).trans ((hs_ne (by omega)).trans ((hs_ne (by omega)).trans ((hs_ne (by omega)).trans ((hs_ne (by omega)).trans ((hs_ne (by omega)).trans (hs_eq _ _ _))))))))) ((hs_ne (by omega)).trans ((hs_ne (by omega)).trans ((hs_ne (by omega)).trans ((hs_ne (by omega)).trans ((hs_ne (by omega)).trans ((hs_ne (by omega)).trans ((hs_ne (by omega)).trans (hs_eq _ _ _)))))))) ((hs_ne (by omega)).trans (hs_eq _ _ _)) (by omega)) (Nat.le_of_ble_eq_true rfl) (Nat.le_of_ble_eq_true rfl) (by omega) (by omega) (Nat.le_of_ble_eq_true rfl) GX.no (pq ?_)
  show GW X 37 [some (.ref 0), some (.int (nI d))] [.int (movedI ((daysI wd vt ws rc d (ti, st, dy)).2.1) st rc)] (hs (hs (hs (hs (hs (hs (hs (hs (hs (hs (hs h 1 (oB 2 [.ref (1 + 1), .ref (1 + 2), .ref (1 + 3), .ref (1 + 4), .ref (1 + 5), .ref (1 + 6), .ref (1 + 7), .ref (1 + 8), .int (nI rc), .int ((daysI wd vt ws rc d (ti, st, dy)).2.2)])) (1 + 4) (aI 20 ((daysI wd vt ws rc d (ti, st, dy)).1))) (1 + 7) (aI 20 ((daysI wd vt ws rc d (ti, st, dy)).2.1))) 10 (oB 2 [.ref (10 + 1), .ref (10 + 2), .ref (10 + 3), .ref (10 + 4), .ref (10 + 5), .ref (10 + 6), .ref (10 + 7), .ref (10 + 8), .int (nI rc), .int dy])) (10 + 1) (aI 20 wd)) (10 + 2) (aI 20 sk)) (10 + 3) (aI 20 vt)) (10 + 4) (aI 20 ti)) (10 + 5) (aI 20 fa)) (10 + 7) (aI 20 st)) (10 + 8) (aI 18 ws)) n 0 0
  refine g_ireturn hX hr dX3_pass_37 (by omega) (by omega)  ?_
  exact ⟨rfl, rfl, fun j hj => ((hs_ne (by omega)).trans ((hs_ne (by omega)).trans ((hs_ne (by omega)).trans ((hs_ne (by omega)).trans ((hs_ne (by omega)).trans ((hs_ne (by omega)).trans ((hs_ne (by omega)).trans ((hs_ne (by omega)).trans (hs_cgj (hs_cgj (hs_cgj (rfl)))))))))))), ⟨_, _, _, _, _, _, _, _, _, _, ((hs_ne (by omega)).trans ((hs_ne (by omega)).trans ((hs_ne (by omega)).trans ((hs_ne (by omega)).trans ((hs_ne (by omega)).trans ((hs_ne (by omega)).trans ((hs_ne (by omega)).trans (hs_eq _ _ _)))))))), ((hs_ne (by omega)).trans ((hs_ne (by omega)).trans ((hs_ne (by omega)).trans ((hs_ne (by omega)).trans ((hs_ne (by omega)).trans ((hs_ne (by omega)).trans (hs_eq _ _ _))))))), ((hs_ne (by omega)).trans ((hs_ne (by omega)).trans ((hs_ne (by omega)).trans ((hs_ne (by omega)).trans ((hs_ne (by omega)).trans (hs_eq _ _ _)))))), ((hs_ne (by omega)).trans ((hs_ne (by omega)).trans ((hs_ne (by omega)).trans ((hs_ne (by omega)).trans (hs_eq _ _ _))))), ((hs_ne (by omega)).trans ((hs_ne (by omega)).trans ((hs_ne (by omega)).trans (hs_eq _ _ _)))), ((hs_ne (by omega)).trans ((hs_ne (by omega)).trans (hs_eq _ _ _))), ((hs_ne (by omega)).trans ((hs_ne (by omega)).trans ((hs_ne (by omega)).trans ((hs_ne (by omega)).trans ((hs_ne (by omega)).trans ((hs_ne (by omega)).trans ((hs_ne (by omega)).trans ((hs_ne (by omega)).trans ((hs_ne (by omega)).trans ((hs_ne (by omega)).trans ((hs_ne (by omega)).trans (otf)))))))))))), ((hs_ne (by omega)).trans (hs_eq _ _ _)), (hs_eq _ _ _)⟩, ⟨_, _, _, _, _, _, ((hs_ne (by omega)).trans ((hs_ne (by omega)).trans ((hs_ne (by omega)).trans ((hs_ne (by omega)).trans ((hs_ne (by omega)).trans ((hs_ne (by omega)).trans ((hs_ne (by omega)).trans ((hs_ne (by omega)).trans ((hs_ne (by omega)).trans ((hs_ne (by omega)).trans ((hs_ne (by omega)).trans (g0)))))))))))), ((hs_ne (by omega)).trans ((hs_ne (by omega)).trans ((hs_ne (by omega)).trans ((hs_ne (by omega)).trans ((hs_ne (by omega)).trans ((hs_ne (by omega)).trans ((hs_ne (by omega)).trans ((hs_ne (by omega)).trans ((hs_ne (by omega)).trans ((hs_ne (by omega)).trans ((hs_ne (by omega)).trans (g1)))))))))))), ((hs_ne (by omega)).trans ((hs_ne (by omega)).trans ((hs_ne (by omega)).trans ((hs_ne (by omega)).trans ((hs_ne (by omega)).trans ((hs_ne (by omega)).trans ((hs_ne (by omega)).trans ((hs_ne (by omega)).trans ((hs_ne (by omega)).trans ((hs_ne (by omega)).trans ((hs_ne (by omega)).trans (g2)))))))))))), ((hs_ne (by omega)).trans ((hs_ne (by omega)).trans ((hs_ne (by omega)).trans ((hs_ne (by omega)).trans ((hs_ne (by omega)).trans ((hs_ne (by omega)).trans ((hs_ne (by omega)).trans ((hs_ne (by omega)).trans ((hs_ne (by omega)).trans ((hs_ne (by omega)).trans ((hs_ne (by omega)).trans (g3)))))))))))), ((hs_ne (by omega)).trans ((hs_ne (by omega)).trans ((hs_ne (by omega)).trans ((hs_ne (by omega)).trans ((hs_ne (by omega)).trans ((hs_ne (by omega)).trans ((hs_ne (by omega)).trans ((hs_ne (by omega)).trans ((hs_ne (by omega)).trans ((hs_ne (by omega)).trans ((hs_ne (by omega)).trans (g4))))))))))))⟩⟩
set_option maxRecDepth 20000 in
theorem kX3_foresee_r {l : Launch} {K : gw_K} (hst : l.stackTraces = false) {rc mc n : Nat} {dy tch frs : Int32} {h : gw_H} {a b d : Int32} (r0 : h 0 = (oB 3 [.ref 1, .ref 10, .ref 19, .ref 24, .int (nI mc), .int tch, .int frs])) (f0 : h 1 = (oB 2 [.ref (1 + 1), .ref (1 + 2), .ref (1 + 3), .ref (1 + 4), .ref (1 + 5), .ref (1 + 6), .ref (1 + 7), .ref (1 + 8), .int (nI rc), .int dy])) (hz : a < 0 ∨ nI rc ≤ a) : Ctr l K mX3_foresee [.ref 0, .int a, .int b, .int d] h n 1 6 (fun _ _ _ => False) (PXQ "java/lang/IndexOutOfBoundsException" h n) := by
  refine Ctr.of hst pn_X3_foresee (Nat.le_of_ble_eq_true rfl) (fun X hX hr hE => ?_)
  have hX : FX l K X cX3_foresee RX3 7 112 1 6 := hX
  show GW X 0 [some (.ref 0), some (.int a), some (.int b), some (.int d)] [] h n 0 0
  refine g_iload_n hX dX3_foresee_0 rfl rfl ?_
  refine g_aload_n hX dX3_foresee_1 rfl rfl ?_
  refine g_getf hX dX3_foresee_2 fl_X3_12 (r0) rfl ?_
  refine g_getf hX dX3_foresee_5 fl_X3_41 (f0) rfl ?_
  refine g_callS (As := [.int a, .int (nI rc)]) hX dX3_foresee_8 cb_X3_requireIndex ml_X3_33 st_X3_requireIndex rfl rfl (kX3_requireIndex_x hst (hz)) (Nat.le_of_ble_eq_true rfl) (Nat.le_of_ble_eq_true rfl) (by omega) (by omega) (Nat.le_of_ble_eq_true rfl) ?_ ?_
  · refine px ?_
    refine g_out hX hr hE.1 (by omega) (by omega) ?_
    exact ⟨rfl, rfl, rfl⟩
  · exact fun _ _ _ _ h => h.elim
set_option maxRecDepth 20000 in
theorem kX3_foresee_d {l : Launch} {K : gw_K} (hst : l.stackTraces = false) {rc mc n : Nat} {dy tch frs : Int32} {h : gw_H} {a : Nat} {b d : Int32} (r0 : h 0 = (oB 3 [.ref 1, .ref 10, .ref 19, .ref 24, .int (nI mc), .int tch, .int frs])) (f0 : h 1 = (oB 2 [.ref (1 + 1), .ref (1 + 2), .ref (1 + 3), .ref (1 + 4), .ref (1 + 5), .ref (1 + 6), .ref (1 + 7), .ref (1 + 8), .int (nI rc), .int dy])) (hrc : rc ≤ 20) (ha : a < rc) (hz : b < nI 1 ∨ nI 60 < b) : Ctr l K mX3_foresee [.ref 0, .int (nI a), .int b, .int d] h n 1 6 (fun _ _ _ => False) (PXQ "java/lang/IllegalArgumentException" h n) := by
  refine Ctr.of hst pn_X3_foresee (Nat.le_of_ble_eq_true rfl) (fun X hX hr hE => ?_)
  have hX : FX l K X cX3_foresee RX3 7 112 1 6 := hX
  show GW X 0 [some (.ref 0), some (.int (nI a)), some (.int b), some (.int d)] [] h n 0 0
  refine g_iload_n hX dX3_foresee_0 rfl rfl ?_
  refine g_aload_n hX dX3_foresee_1 rfl rfl ?_
  refine g_getf hX dX3_foresee_2 fl_X3_12 (r0) rfl ?_
  refine g_getf hX dX3_foresee_5 fl_X3_41 (f0) rfl ?_
  refine g_callS (As := [.int (nI a), .int (nI rc)]) hX dX3_foresee_8 cb_X3_requireIndex ml_X3_33 st_X3_requireIndex rfl rfl (kX3_requireIndex hst (gn_okI ha (by omega))) (Nat.le_of_ble_eq_true rfl) (Nat.le_of_ble_eq_true rfl) (by omega) (by omega) (Nat.le_of_ble_eq_true rfl) GX.no (pq ?_)
  show GW X 11 [some (.ref 0), some (.int (nI a)), some (.int b), some (.int d)] [] h n 0 0
  refine g_iload_n hX dX3_foresee_11 rfl rfl ?_
  refine g_iconst (v := (nI 1)) hX dX3_foresee_12 (by decide) ?_
  refine g_bipush (v := (nI 60)) hX dX3_foresee_13 (by decide) ?_
  refine g_callS (As := [.int b, .int (nI 1), .int (nI 60)]) hX dX3_foresee_15 cb_X3_requireWithin ml_X3_37 st_X3_requireWithin rfl rfl (kX3_requireWithin_x hst (hz)) (Nat.le_of_ble_eq_true rfl) (Nat.le_of_ble_eq_true rfl) (by omega) (by omega) (Nat.le_of_ble_eq_true rfl) ?_ ?_
  · refine px ?_
    refine g_out hX hr hE.1 (by omega) (by omega) ?_
    exact ⟨rfl, rfl, rfl⟩
  · exact fun _ _ _ _ h => h.elim
set_option maxRecDepth 20000 in
theorem kX3_foresee_w {l : Launch} {K : gw_K} (hst : l.stackTraces = false) {rc mc n : Nat} {dy tch frs : Int32} {h : gw_H} {a d : Nat} {b : Int32} (r0 : h 0 = (oB 3 [.ref 1, .ref 10, .ref 19, .ref 24, .int (nI mc), .int tch, .int frs])) (f0 : h 1 = (oB 2 [.ref (1 + 1), .ref (1 + 2), .ref (1 + 3), .ref (1 + 4), .ref (1 + 5), .ref (1 + 6), .ref (1 + 7), .ref (1 + 8), .int (nI rc), .int dy])) (hrc : rc ≤ 20) (ha : a < rc) (hd1 : 1 ≤ d) (hd60 : d ≤ 60) (hz : b < nI 3 ∨ nI 5 < b) : Ctr l K mX3_foresee [.ref 0, .int (nI a), .int (nI d), .int b] h n 1 6 (fun _ _ _ => False) (PXQ "java/lang/IllegalArgumentException" h n) := by
  refine Ctr.of hst pn_X3_foresee (Nat.le_of_ble_eq_true rfl) (fun X hX hr hE => ?_)
  have hX : FX l K X cX3_foresee RX3 7 112 1 6 := hX
  show GW X 0 [some (.ref 0), some (.int (nI a)), some (.int (nI d)), some (.int b)] [] h n 0 0
  refine g_iload_n hX dX3_foresee_0 rfl rfl ?_
  refine g_aload_n hX dX3_foresee_1 rfl rfl ?_
  refine g_getf hX dX3_foresee_2 fl_X3_12 (r0) rfl ?_
  refine g_getf hX dX3_foresee_5 fl_X3_41 (f0) rfl ?_
  refine g_callS (As := [.int (nI a), .int (nI rc)]) hX dX3_foresee_8 cb_X3_requireIndex ml_X3_33 st_X3_requireIndex rfl rfl (kX3_requireIndex hst (gn_okI ha (by omega))) (Nat.le_of_ble_eq_true rfl) (Nat.le_of_ble_eq_true rfl) (by omega) (by omega) (Nat.le_of_ble_eq_true rfl) GX.no (pq ?_)
  show GW X 11 [some (.ref 0), some (.int (nI a)), some (.int (nI d)), some (.int b)] [] h n 0 0
  refine g_iload_n hX dX3_foresee_11 rfl rfl ?_
  refine g_iconst (v := (nI 1)) hX dX3_foresee_12 (by decide) ?_
  refine g_bipush (v := (nI 60)) hX dX3_foresee_13 (by decide) ?_
  refine g_callS (As := [.int (nI d), .int (nI 1), .int (nI 60)]) hX dX3_foresee_15 cb_X3_requireWithin ml_X3_37 st_X3_requireWithin rfl rfl (kX3_requireWithin hst (gn_okW hd1 hd60 (by omega))) (Nat.le_of_ble_eq_true rfl) (Nat.le_of_ble_eq_true rfl) (by omega) (by omega) (Nat.le_of_ble_eq_true rfl) GX.no (pq ?_)
  show GW X 18 [some (.ref 0), some (.int (nI a)), some (.int (nI d)), some (.int b)] [] h n 0 0
  refine g_iload_n hX dX3_foresee_18 rfl rfl ?_
  refine g_iconst (v := (nI 3)) hX dX3_foresee_19 (by decide) ?_
  refine g_iconst (v := (nI 5)) hX dX3_foresee_20 (by decide) ?_
  refine g_callS (As := [.int b, .int (nI 3), .int (nI 5)]) hX dX3_foresee_21 cb_X3_requireWithin ml_X3_37 st_X3_requireWithin rfl rfl (kX3_requireWithin_x hst (hz)) (Nat.le_of_ble_eq_true rfl) (Nat.le_of_ble_eq_true rfl) (by omega) (by omega) (Nat.le_of_ble_eq_true rfl) ?_ ?_
  · refine px ?_
    refine g_out hX hr hE.1 (by omega) (by omega) ?_
    exact ⟨rfl, rfl, rfl⟩
  · exact fun _ _ _ _ h => h.elim
set_option maxRecDepth 20000 in
theorem kX3_foresee {l : Launch} {K : gw_K} (hst : l.stackTraces = false) {rc mc n : Nat} {dy tch frs : Int32} {h : gw_H} {wd sk vt ti fa st ws : Nat → Int32} {orc : Nat} {ody : Int32} {owd osk ovt oti ofa otf ost ows : Nat → Int32} {pl mv ma : Nat → Int32} {sn : Nat → Int64} {cm rr : Int32} {a d q : Nat} (r0 : h 0 = (oB 3 [.ref 1, .ref 10, .ref 19, .ref 24, .int (nI mc), .int tch, .int frs])) (f0 : h 1 = (oB 2 [.ref (1 + 1), .ref (1 + 2), .ref (1 + 3), .ref (1 + 4), .ref (1 + 5), .ref (1 + 6), .ref (1 + 7), .ref (1 + 8), .int (nI rc), .int dy])) (fwd : h (1 + 1) = (aI 20 wd)) (fsk : h (1 + 2) = (aI 20 sk)) (fvt : h (1 + 3) = (aI 20 vt)) (fti : h (1 + 4) = (aI 20 ti)) (ffa : h (1 + 5) = (aI 20 fa)) (fst : h (1 + 7) = (aI 20 st)) (fws : h (1 + 8) = (aI 18 ws)) (o0 : h 10 = (oB 2 [.ref (10 + 1), .ref (10 + 2), .ref (10 + 3), .ref (10 + 4), .ref (10 + 5), .ref (10 + 6), .ref (10 + 7), .ref (10 + 8), .int (nI orc), .int ody])) (owd : h (10 + 1) = (aI 20 owd)) (osk : h (10 + 2) = (aI 20 osk)) (ovt : h (10 + 3) = (aI 20 ovt)) (oti : h (10 + 4) = (aI 20 oti)) (ofa : h (10 + 5) = (aI 20 ofa)) (otf : h (10 + 6) = (aI 20 otf)) (ost : h (10 + 7) = (aI 20 ost)) (ows : h (10 + 8) = (aI 18 ows)) (g0 : h 19 = (oB 1 [.ref (19 + 1), .ref (19 + 2), .ref (19 + 3), .ref (19 + 4), .int cm, .int rr])) (g1 : h (19 + 1) = (aI 6 pl)) (g2 : h (19 + 2) = (aI 6 mv)) (g3 : h (19 + 3) = (aI 6 ma)) (g4 : h (19 + 4) = (aJ 122 sn)) (hrc : rc ≤ 20) (ha : a < rc) (hd1 : 1 ≤ d) (hd60 : d ≤ 60) (hq3 : 3 ≤ q) (hq5 : q ≤ 5) : Ctr l K mX3_foresee [.ref 0, .int (nI a), .int (nI d), .int (nI q)] h n 1 6 (PS (some (.int (tellI wd sk vt (daysI wd vt ws rc d (ti, st, dy)).1 fa (daysI wd vt ws rc d (ti, st, dy)).2.1 rc a q))) h n) (PX0) := by
  refine Ctr.of hst pn_X3_foresee (Nat.le_of_ble_eq_true rfl) (fun X hX hr hE => ?_)
  have hX : FX l K X cX3_foresee RX3 7 112 1 6 := hX
  show GW X 0 [some (.ref 0), some (.int (nI a)), some (.int (nI d)), some (.int (nI q))] [] h n 0 0
  refine g_iload_n hX dX3_foresee_0 rfl rfl ?_
  refine g_aload_n hX dX3_foresee_1 rfl rfl ?_
  refine g_getf hX dX3_foresee_2 fl_X3_12 (r0) rfl ?_
  refine g_getf hX dX3_foresee_5 fl_X3_41 (f0) rfl ?_
  refine g_callS (As := [.int (nI a), .int (nI rc)]) hX dX3_foresee_8 cb_X3_requireIndex ml_X3_33 st_X3_requireIndex rfl rfl (kX3_requireIndex hst (gn_okI ha (by omega))) (Nat.le_of_ble_eq_true rfl) (Nat.le_of_ble_eq_true rfl) (by omega) (by omega) (Nat.le_of_ble_eq_true rfl) GX.no (pq ?_)
  show GW X 11 [some (.ref 0), some (.int (nI a)), some (.int (nI d)), some (.int (nI q))] [] h n 0 0
  refine g_iload_n hX dX3_foresee_11 rfl rfl ?_
  refine g_iconst (v := (nI 1)) hX dX3_foresee_12 (by decide) ?_
  refine g_bipush (v := (nI 60)) hX dX3_foresee_13 (by decide) ?_
  refine g_callS (As := [.int (nI d), .int (nI 1), .int (nI 60)]) hX dX3_foresee_15 cb_X3_requireWithin ml_X3_37 st_X3_requireWithin rfl rfl (kX3_requireWithin hst (gn_okW hd1 hd60 (by omega))) (Nat.le_of_ble_eq_true rfl) (Nat.le_of_ble_eq_true rfl) (by omega) (by omega) (Nat.le_of_ble_eq_true rfl) GX.no (pq ?_)
  show GW X 18 [some (.ref 0), some (.int (nI a)), some (.int (nI d)), some (.int (nI q))] [] h n 0 0
  refine g_iload_n hX dX3_foresee_18 rfl rfl ?_
  refine g_iconst (v := (nI 3)) hX dX3_foresee_19 (by decide) ?_
  refine g_iconst (v := (nI 5)) hX dX3_foresee_20 (by decide) ?_
  refine g_callS (As := [.int (nI q), .int (nI 3), .int (nI 5)]) hX dX3_foresee_21 cb_X3_requireWithin ml_X3_37 st_X3_requireWithin rfl rfl (kX3_requireWithin hst (gn_okW hq3 hq5 (by omega))) (Nat.le_of_ble_eq_true rfl) (Nat.le_of_ble_eq_true rfl) (by omega) (by omega) (Nat.le_of_ble_eq_true rfl) GX.no (pq ?_)
  show GW X 24 [some (.ref 0), some (.int (nI a)), some (.int (nI d)), some (.int (nI q))] [] h n 0 0
  refine g_aload_n hX dX3_foresee_24 rfl rfl ?_
  refine g_getf hX dX3_foresee_25 fl_X3_16 (r0) rfl ?_
  refine g_aload_n hX dX3_foresee_28 rfl rfl ?_
  refine g_getf hX dX3_foresee_29 fl_X3_12 (r0) rfl ?_
  refine g_callV (As := [.ref 1]) hX dX3_foresee_32 cb_X2_copyFrom ml_X3_106 im_X2_copyFrom se_X2_copyFrom rfl rfl (o0) ⟨_, rfl, rfl⟩ (kX2_copyFrom hst (o0) (owd) (osk) (ovt) (oti) (ofa) (ost) (ows) (f0) (fwd) (fsk) (fvt) (fti) (ffa) (fst) (fws) (by omega)) (Nat.le_of_ble_eq_true rfl) (Nat.le_of_ble_eq_true rfl) (by omega) (by omega) (Nat.le_of_ble_eq_true rfl) GX.no (pq ?_)
  show GW X 35 [some (.ref 0), some (.int (nI a)), some (.int (nI d)), some (.int (nI q))] [] (hs (hs (hs (hs (hs (hs (hs (hs h (10 + 1) (aI 20 wd)) (10 + 2) (aI 20 sk)) (10 + 3) (aI 20 vt)) (10 + 4) (aI 20 ti)) (10 + 5) (aI 20 fa)) (10 + 7) (aI 20 st)) (10 + 8) (aI 18 ws)) 10 (oB 2 [.ref (10 + 1), .ref (10 + 2), .ref (10 + 3), .ref (10 + 4), .ref (10 + 5), .ref (10 + 6), .ref (10 + 7), .ref (10 + 8), .int (nI rc), .int dy])) n 0 0
  refine g_aload_n hX dX3_foresee_35 rfl rfl ?_
  refine g_getf hX dX3_foresee_36 fl_X3_16 ((hs_ne (by omega)).trans ((hs_ne (by omega)).trans ((hs_ne (by omega)).trans ((hs_ne (by omega)).trans ((hs_ne (by omega)).trans ((hs_ne (by omega)).trans ((hs_ne (by omega)).trans ((hs_ne (by omega)).trans (r0))))))))) rfl ?_
  refine g_iload_n hX dX3_foresee_39 rfl rfl ?_
  refine g_callV (As := [.int (nI d)]) hX dX3_foresee_40 cb_X2_passDays ml_X3_195 im_X2_passDays se_X2_passDays rfl rfl (hs_eq _ _ _) ⟨_, rfl, rfl⟩ (kX2_passDays (z := (ti, st, dy)) hst (hs_eq _ _ _) ((hs_ne (by omega)).trans ((hs_ne (by omega)).trans ((hs_ne (by omega)).trans ((hs_ne (by omega)).trans ((hs_ne (by omega)).trans ((hs_ne (by omega)).trans ((hs_ne (by omega)).trans (hs_eq _ _ _)))))))) ((hs_ne (by omega)).trans ((hs_ne (by omega)).trans ((hs_ne (by omega)).trans ((hs_ne (by omega)).trans ((hs_ne (by omega)).trans (hs_eq _ _ _)))))) ((hs_ne (by omega)).trans ((hs_ne (by omega)).trans ((hs_ne (by omega)).trans ((hs_ne (by omega)).trans (hs_eq _ _ _))))) ((hs_ne (by omega)).trans ((hs_ne (by omega)).trans (hs_eq _ _ _))) ((hs_ne (by omega)).trans (hs_eq _ _ _)) (by omega) (by omega)) (Nat.le_of_ble_eq_true rfl) (Nat.le_of_ble_eq_true rfl) (by omega) (by omega) (Nat.le_of_ble_eq_true rfl) GX.no (pq ?_)
  show GW X 43 [some (.ref 0), some (.int (nI a)), some (.int (nI d)), some (.int (nI q))] [] (hs (hs (hs (hs (hs (hs (hs (hs (hs (hs (hs h (10 + 1) (aI 20 wd)) (10 + 2) (aI 20 sk)) (10 + 3) (aI 20 vt)) (10 + 4) (aI 20 ti)) (10 + 5) (aI 20 fa)) (10 + 7) (aI 20 st)) (10 + 8) (aI 18 ws)) 10 (oB 2 [.ref (10 + 1), .ref (10 + 2), .ref (10 + 3), .ref (10 + 4), .ref (10 + 5), .ref (10 + 6), .ref (10 + 7), .ref (10 + 8), .int (nI rc), .int dy])) 10 (oB 2 [.ref (10 + 1), .ref (10 + 2), .ref (10 + 3), .ref (10 + 4), .ref (10 + 5), .ref (10 + 6), .ref (10 + 7), .ref (10 + 8), .int (nI rc), .int ((daysI wd vt ws rc d (ti, st, dy)).2.2)])) (10 + 4) (aI 20 ((daysI wd vt ws rc d (ti, st, dy)).1))) (10 + 7) (aI 20 ((daysI wd vt ws rc d (ti, st, dy)).2.1))) n 0 0
  refine g_cg (h' := (hs (hs (hs (hs (hs (hs (hs (hs h 10 (oB 2 [.ref (10 + 1), .ref (10 + 2), .ref (10 + 3), .ref (10 + 4), .ref (10 + 5), .ref (10 + 6), .ref (10 + 7), .ref (10 + 8), .int (nI rc), .int ((daysI wd vt ws rc d (ti, st, dy)).2.2)])) (10 + 1) (aI 20 wd)) (10 + 2) (aI 20 sk)) (10 + 3) (aI 20 vt)) (10 + 4) (aI 20 ((daysI wd vt ws rc d (ti, st, dy)).1))) (10 + 5) (aI 20 fa)) (10 + 7) (aI 20 ((daysI wd vt ws rc d (ti, st, dy)).2.1))) (10 + 8) (aI 18 ws))) rfl (by rw [hs_cm (k := 10) (j := 10 + 8) _ _ _ (by omega), hs_cm (k := 10) (j := 10 + 7) _ _ _ (by omega), hs_cm (k := 10) (j := 10 + 5) _ _ _ (by omega), hs_cm (k := 10) (j := 10 + 4) _ _ _ (by omega), hs_cm (k := 10) (j := 10 + 3) _ _ _ (by omega), hs_cm (k := 10) (j := 10 + 2) _ _ _ (by omega), hs_cm (k := 10) (j := 10 + 1) _ _ _ (by omega), hs_cm (k := 10) (j := 10 + 8) _ _ _ (by omega), hs_cm (k := 10) (j := 10 + 7) _ _ _ (by omega), hs_cm (k := 10) (j := 10 + 5) _ _ _ (by omega), hs_cm (k := 10) (j := 10 + 4) _ _ _ (by omega), hs_cm (k := 10) (j := 10 + 3) _ _ _ (by omega), hs_cm (k := 10) (j := 10 + 2) _ _ _ (by omega), hs_cm (k := 10) (j := 10 + 1) _ _ _ (by omega), hs_hs (k := 10), hs_cm (k := 10 + 4) (j := 10 + 8) _ _ _ (by omega), hs_cm (k := 10 + 4) (j := 10 + 7) _ _ _ (by omega), hs_cm (k := 10 + 4) (j := 10 + 5) _ _ _ (by omega), hs_hs (k := 10 + 4), hs_cm (k := 10 + 7) (j := 10 + 8) _ _ _ (by omega), hs_hs (k := 10 + 7)]) ?_
  refine g_aload_n hX dX3_foresee_43 rfl rfl ?_
  refine g_getf hX dX3_foresee_44 fl_X3_16 ((hs_ne (by omega)).trans ((hs_ne (by omega)).trans ((hs_ne (by omega)).trans ((hs_ne (by omega)).trans ((hs_ne (by omega)).trans ((hs_ne (by omega)).trans ((hs_ne (by omega)).trans ((hs_ne (by omega)).trans (r0))))))))) rfl ?_
  refine g_iload_n hX dX3_foresee_47 rfl rfl ?_
  refine g_iload_n hX dX3_foresee_48 rfl rfl ?_
  refine g_callV (As := [.int (nI a), .int (nI q)]) hX dX3_foresee_49 cb_X2_tellOfRinger ml_X3_103 im_X2_tellOfRinger se_X2_tellOfRinger rfl rfl ((hs_ne (by omega)).trans ((hs_ne (by omega)).trans ((hs_ne (by omega)).trans ((hs_ne (by omega)).trans ((hs_ne (by omega)).trans ((hs_ne (by omega)).trans ((hs_ne (by omega)).trans (hs_eq _ _ _)))))))) ⟨_, rfl, rfl⟩ (kX2_tellOfRinger hst ((hs_ne (by omega)).trans ((hs_ne (by omega)).trans ((hs_ne (by omega)).trans ((hs_ne (by omega)).trans ((hs_ne (by omega)).trans ((hs_ne (by omega)).trans ((hs_ne (by omega)).trans (hs_eq _ _ _)))))))) ((hs_ne (by omega)).trans ((hs_ne (by omega)).trans ((hs_ne (by omega)).trans ((hs_ne (by omega)).trans ((hs_ne (by omega)).trans ((hs_ne (by omega)).trans (hs_eq _ _ _))))))) ((hs_ne (by omega)).trans ((hs_ne (by omega)).trans ((hs_ne (by omega)).trans ((hs_ne (by omega)).trans ((hs_ne (by omega)).trans (hs_eq _ _ _)))))) ((hs_ne (by omega)).trans ((hs_ne (by omega)).trans ((hs_ne (by omega)).trans ((hs_ne (by omega)).trans (hs_eq _ _ _))))) ((hs_ne (by omega)).trans ((hs_ne (by omega)).trans ((hs_ne (by omega)).trans (hs_eq _ _ _)))) ((hs_ne (by omega)).trans ((hs_ne (by omega)).trans (hs_eq _ _ _))) ((hs_ne (by omega)).trans (hs_eq _ _ _)) (by omega) (by omega) (by omega)) (Nat.le_of_ble_eq_true rfl) (Nat.le_of_ble_eq_true rfl) (by omega) (by omega) (Nat.le_of_ble_eq_true rfl) GX.no (pq ?_)
  show GW X 52 [some (.ref 0), some (.int (nI a)), some (.int (nI d)), some (.int (nI q))] [.int (tellI wd sk vt ((daysI wd vt ws rc d (ti, st, dy)).1) fa ((daysI wd vt ws rc d (ti, st, dy)).2.1) rc a q)] (hs (hs (hs (hs (hs (hs (hs (hs h 10 (oB 2 [.ref (10 + 1), .ref (10 + 2), .ref (10 + 3), .ref (10 + 4), .ref (10 + 5), .ref (10 + 6), .ref (10 + 7), .ref (10 + 8), .int (nI rc), .int ((daysI wd vt ws rc d (ti, st, dy)).2.2)])) (10 + 1) (aI 20 wd)) (10 + 2) (aI 20 sk)) (10 + 3) (aI 20 vt)) (10 + 4) (aI 20 ((daysI wd vt ws rc d (ti, st, dy)).1))) (10 + 5) (aI 20 fa)) (10 + 7) (aI 20 ((daysI wd vt ws rc d (ti, st, dy)).2.1))) (10 + 8) (aI 18 ws)) n 0 0
  refine g_ireturn hX hr dX3_foresee_52 (by omega) (by omega)  ?_
  exact ⟨rfl, rfl, fun j hj => (hs_ne (by omega)).trans ((hs_ne (by omega)).trans ((hs_ne (by omega)).trans ((hs_ne (by omega)).trans ((hs_ne (by omega)).trans ((hs_ne (by omega)).trans ((hs_ne (by omega)).trans ((hs_ne (by omega)).trans (rfl)))))))), ⟨_, _, _, _, _, _, _, _, _, _, ((hs_ne (by omega)).trans ((hs_ne (by omega)).trans ((hs_ne (by omega)).trans ((hs_ne (by omega)).trans ((hs_ne (by omega)).trans ((hs_ne (by omega)).trans ((hs_ne (by omega)).trans (hs_eq _ _ _)))))))), ((hs_ne (by omega)).trans ((hs_ne (by omega)).trans ((hs_ne (by omega)).trans ((hs_ne (by omega)).trans ((hs_ne (by omega)).trans ((hs_ne (by omega)).trans (hs_eq _ _ _))))))), ((hs_ne (by omega)).trans ((hs_ne (by omega)).trans ((hs_ne (by omega)).trans ((hs_ne (by omega)).trans ((hs_ne (by omega)).trans (hs_eq _ _ _)))))), ((hs_ne (by omega)).trans ((hs_ne (by omega)).trans ((hs_ne (by omega)).trans ((hs_ne (by omega)).trans (hs_eq _ _ _))))), ((hs_ne (by omega)).trans ((hs_ne (by omega)).trans ((hs_ne (by omega)).trans (hs_eq _ _ _)))), ((hs_ne (by omega)).trans ((hs_ne (by omega)).trans (hs_eq _ _ _))), ((hs_ne (by omega)).trans ((hs_ne (by omega)).trans ((hs_ne (by omega)).trans ((hs_ne (by omega)).trans ((hs_ne (by omega)).trans ((hs_ne (by omega)).trans ((hs_ne (by omega)).trans ((hs_ne (by omega)).trans (otf))))))))), ((hs_ne (by omega)).trans (hs_eq _ _ _)), (hs_eq _ _ _)⟩, ⟨_, _, _, _, _, _, ((hs_ne (by omega)).trans ((hs_ne (by omega)).trans ((hs_ne (by omega)).trans ((hs_ne (by omega)).trans ((hs_ne (by omega)).trans ((hs_ne (by omega)).trans ((hs_ne (by omega)).trans ((hs_ne (by omega)).trans (g0))))))))), ((hs_ne (by omega)).trans ((hs_ne (by omega)).trans ((hs_ne (by omega)).trans ((hs_ne (by omega)).trans ((hs_ne (by omega)).trans ((hs_ne (by omega)).trans ((hs_ne (by omega)).trans ((hs_ne (by omega)).trans (g1))))))))), ((hs_ne (by omega)).trans ((hs_ne (by omega)).trans ((hs_ne (by omega)).trans ((hs_ne (by omega)).trans ((hs_ne (by omega)).trans ((hs_ne (by omega)).trans ((hs_ne (by omega)).trans ((hs_ne (by omega)).trans (g2))))))))), ((hs_ne (by omega)).trans ((hs_ne (by omega)).trans ((hs_ne (by omega)).trans ((hs_ne (by omega)).trans ((hs_ne (by omega)).trans ((hs_ne (by omega)).trans ((hs_ne (by omega)).trans ((hs_ne (by omega)).trans (g3))))))))), ((hs_ne (by omega)).trans ((hs_ne (by omega)).trans ((hs_ne (by omega)).trans ((hs_ne (by omega)).trans ((hs_ne (by omega)).trans ((hs_ne (by omega)).trans ((hs_ne (by omega)).trans ((hs_ne (by omega)).trans (g4)))))))))⟩⟩
set_option maxRecDepth 20000 in
theorem kX3_mean {l : Launch} {K : gw_K} (hst : l.stackTraces = false) {rc mc n : Nat} {dy tch frs : Int32} {h : gw_H} {st sk : Nat → Int32}  (r0 : h 0 = (oB 3 [.ref 1, .ref 10, .ref 19, .ref 24, .int (nI mc), .int tch, .int frs])) (f0 : h 1 = (oB 2 [.ref (1 + 1), .ref (1 + 2), .ref (1 + 3), .ref (1 + 4), .ref (1 + 5), .ref (1 + 6), .ref (1 + 7), .ref (1 + 8), .int (nI rc), .int dy])) (fst : h (1 + 7) = (aI 20 st)) (fsk : h (1 + 2) = (aI 20 sk)) (hrc : rc ≤ 20) (hnan : ¬ busyI st rc = 0 → vf_n64 (FP.ddiv (FP.i2d (skillI st sk rc)) (FP.i2d (busyI st rc)))) : Ctr l K mX3_mean [.ref 0] h n 0 0 (PQ (some (.double (if busyI st rc = 0 then 0 else FP.ddiv (FP.i2d (skillI st sk rc)) (FP.i2d (busyI st rc))))) h n) (PX0) := by
  refine Ctr.of hst pn_X3_mean (Nat.le_of_ble_eq_true rfl) (fun X hX hr hE => ?_)
  have hX : FX l K X cX3_mean RX3 4 87 0 0 := hX
  show GW X 0 [some (.ref 0), none] [] h n 0 0
  refine g_aload_n hX dX3_mean_0 rfl rfl ?_
  refine g_getf hX dX3_mean_1 fl_X3_12 (r0) rfl ?_
  refine g_callV (As := []) hX dX3_mean_4 cb_X2_ringersAtBells ml_X3_183 im_X2_ringersAtBells se_X2_ringersAtBells rfl rfl (f0) ⟨_, rfl, rfl⟩ (kX2_ringersAtBells hst (f0) (fst) (by omega)) (Nat.le_of_ble_eq_true rfl) (Nat.le_of_ble_eq_true rfl) (by omega) (by omega) (Nat.le_of_ble_eq_true rfl) GX.no (pq ?_)
  show GW X 7 [some (.ref 0), none] [.int (busyI st rc)] h n 0 0
  refine g_istore_n (i := 1) hX dX3_mean_7 rfl (Nat.le_of_ble_eq_true rfl) rfl ?_
  refine g_iload_n hX dX3_mean_8 rfl rfl ?_
  refine g_if_ne (tgt := 14) hX dX3_mean_9 (by decide) (fun c1 => ?_) (fun c1 => ?_)
  · refine g_aload_n hX dX3_mean_14 rfl rfl ?_
    refine g_getf hX dX3_mean_15 fl_X3_12 (r0) rfl ?_
    refine g_callV (As := []) hX dX3_mean_18 cb_X2_skillAtBells ml_X3_202 im_X2_skillAtBells se_X2_skillAtBells rfl rfl (f0) ⟨_, rfl, rfl⟩ (kX2_skillAtBells hst (f0) (fst) (fsk) (by omega)) (Nat.le_of_ble_eq_true rfl) (Nat.le_of_ble_eq_true rfl) (by omega) (by omega) (Nat.le_of_ble_eq_true rfl) GX.no (pq ?_)
    show GW X 21 [some (.ref 0), some (.int (busyI st rc))] [.int (skillI st sk rc)] h n 0 0
    refine g_i2d hX dX3_mean_21 ?_
    refine g_iload_n hX dX3_mean_22 rfl rfl ?_
    refine g_i2d hX dX3_mean_23 ?_
    refine g_ddiv hX dX3_mean_24 (hnan c1) ?_
    refine g_dreturn hX hr dX3_mean_25 (Nat.le_refl _) (Nat.le_refl _)  ?_
    exact ⟨by rw [if_neg c1], rfl, rfl⟩
  · refine g_dconst0 hX dX3_mean_12 ?_
    refine g_dreturn hX hr dX3_mean_13 (Nat.le_refl _) (Nat.le_refl _)  ?_
    exact ⟨by rw [if_pos c1], rfl, rfl⟩
