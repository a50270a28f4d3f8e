set_option maxRecDepth 20000 in
theorem kX5_isIn {l : Launch} {K : gw_K} (hst : l.stackTraces = false) {v a b : Int32} {h : gw_H} {n : Nat}  (hz : ¬ (v < a ∨ b < v)) : Ctr l K mX5_isIn [.int v, .int a, .int b] h n 0 0 (PQ (some (.int (nI 1))) h n) (PX0) := by
  refine Ctr.of hst pn_X5_isIn (Nat.le_of_ble_eq_true rfl) (fun X hX hr hE => ?_)
  have hX : FX l K X cX5_isIn RX5 0 0 0 0 := hX
  show GW X 0 [some (.int v), some (.int a), some (.int b)] [] h n 0 0
  refine g_iload_n hX dX5_isIn_0 rfl rfl ?_
  refine g_iload_n hX dX5_isIn_1 rfl rfl ?_
  refine g_icmp_lt (tgt := 14) hX dX5_isIn_2 (by decide) (fun c1 => absurd c1 (fun q => hz (Or.inl q))) (fun c1 => ?_)
  refine g_iload_n hX dX5_isIn_5 rfl rfl ?_
  refine g_iload_n hX dX5_isIn_6 rfl rfl ?_
  refine g_icmp_gt (tgt := 14) hX dX5_isIn_7 (by decide) (fun c2 => absurd c2 (fun q => hz (Or.inr q))) (fun c2 => ?_)
  refine g_iconst (v := (nI 1)) hX dX5_isIn_10 (by decide) ?_
  refine g_goto (tgt := 15) hX dX5_isIn_11 (by decide) ?_
  refine g_zreturn hX hr (by decide) dX5_isIn_15 (Nat.le_refl _) (Nat.le_refl _)  ?_
  exact ⟨rfl, rfl, rfl⟩
set_option maxRecDepth 20000 in
theorem kX5_isIn_x {l : Launch} {K : gw_K} (hst : l.stackTraces = false) {v a b : Int32} {h : gw_H} {n : Nat}  (hz : v < a ∨ b < v) : Ctr l K mX5_isIn [.int v, .int a, .int b] h n 0 0 (PQ (some (.int (nI 0))) h n) (PX0) := by
  refine Ctr.of hst pn_X5_isIn (Nat.le_of_ble_eq_true rfl) (fun X hX hr hE => ?_)
  have hX : FX l K X cX5_isIn RX5 0 0 0 0 := hX
  show GW X 0 [some (.int v), some (.int a), some (.int b)] [] h n 0 0
  refine g_iload_n hX dX5_isIn_0 rfl rfl ?_
  refine g_iload_n hX dX5_isIn_1 rfl rfl ?_
  refine g_icmp_lt (tgt := 14) hX dX5_isIn_2 (by decide) (fun c1 => ?_) (fun c1 => ?_)
  · refine g_iconst (v := (nI 0)) hX dX5_isIn_14 (by decide) ?_
    refine g_zreturn hX hr (by decide) dX5_isIn_15 (Nat.le_refl _) (Nat.le_refl _)  ?_
    exact ⟨rfl, rfl, rfl⟩
  · refine g_iload_n hX dX5_isIn_5 rfl rfl ?_
    refine g_iload_n hX dX5_isIn_6 rfl rfl ?_
    refine g_icmp_gt (tgt := 14) hX dX5_isIn_7 (by decide) (fun c2 => ?_) (fun c2 => ?_)
    · refine g_iconst (v := (nI 0)) hX dX5_isIn_14 (by decide) ?_
      refine g_zreturn hX hr (by decide) dX5_isIn_15 (Nat.le_refl _) (Nat.le_refl _)  ?_
      exact ⟨rfl, rfl, rfl⟩
    · refine g_iconst (v := (nI 1)) hX dX5_isIn_10 (by decide) ?_
      refine g_goto (tgt := 15) hX dX5_isIn_11 (by decide) ?_
      refine g_zreturn hX hr (by decide) dX5_isIn_15 (Nat.le_refl _) (Nat.le_refl _)  ?_
      exact (hz.elim c1 c2).elim
set_option maxRecDepth 20000 in
theorem kX5_isRinger {l : Launch} {K : gw_K} (hst : l.stackTraces = false) {n : Nat} {h : gw_H} {rc mc : Nat} {thr tch frs len : Int32} {r : Nat} (m0 : h 40 = (oB 5 [.int thr, .int (nI rc), .ref 41, .ref 42, .ref 43, .int (nI mc), .ref 44, .ref 45, .int tch, .int frs, .ref 46, .ref 47, .int len, .ref 48, .ref 49, .ref 50, .ref 51, .ref 56])) (hz : r < rc) (hb : rc ≤ 20) : Ctr l K mX5_isRinger [.ref 40, .int (nI r)] h n 0 0 (PQ (some (.int (nI 1))) h n) (PX0) := by
  refine Ctr.of hst pn_X5_isRinger (Nat.le_of_ble_eq_true rfl) (fun X hX hr hE => ?_)
  have hX : FX l K X cX5_isRinger RX5 1 22 0 0 := hX
  show GW X 0 [some (.ref 40), some (.int (nI r))] [] h n 0 0
  refine g_iload_n hX dX5_isRinger_0 rfl rfl ?_
  refine g_iconst (v := (nI 0)) hX dX5_isRinger_1 (by decide) ?_
  refine g_aload_n hX dX5_isRinger_2 rfl rfl ?_
  refine g_getf hX dX5_isRinger_3 fl_X5_56 (m0) rfl ?_
  refine g_iconst (v := (nI 1)) hX dX5_isRinger_6 (by decide) ?_
  refine g_isubN hX dX5_isRinger_7 (by omega) ?_
  refine g_callS (As := [.int (nI r), .int (nI 0), .int (nI (rc - 1))]) hX dX5_isRinger_8 cb_X5_isIn ml_X5_59 st_X5_isIn rfl rfl (kX5_isIn hst (gn_okW (by omega) (by omega) (by omega))) (Nat.le_of_ble_eq_true rfl) (Nat.le_of_ble_eq_true rfl) (by omega) (by omega) (Nat.le_of_ble_eq_true rfl) GX.no (pq ?_)
  show GW X 11 [some (.ref 40), some (.int (nI r))] [.int (nI 1)] h n 0 0
  refine g_zreturn hX hr (by decide) dX5_isRinger_11 (Nat.le_refl _) (Nat.le_refl _)  ?_
  exact ⟨rfl, rfl, rfl⟩
set_option maxRecDepth 20000 in
theorem kX5_isRinger_x {l : Launch} {K : gw_K} (hst : l.stackTraces = false) {n : Nat} {h : gw_H} {rc mc : Nat} {thr tch frs len : Int32} {r : Int32} (m0 : h 40 = (oB 5 [.int thr, .int (nI rc), .ref 41, .ref 42, .ref 43, .int (nI mc), .ref 44, .ref 45, .int tch, .int frs, .ref 46, .ref 47, .int len, .ref 48, .ref 49, .ref 50, .ref 51, .ref 56])) (hz : r < 0 ∨ nI rc ≤ r) (hb : rc ≤ 20) : Ctr l K mX5_isRinger [.ref 40, .int r] h n 0 0 (PQ (some (.int (nI 0))) h n) (PX0) := by
  refine Ctr.of hst pn_X5_isRinger (Nat.le_of_ble_eq_true rfl) (fun X hX hr hE => ?_)
  have hX : FX l K X cX5_isRinger RX5 1 22 0 0 := hX
  show GW X 0 [some (.ref 40), some (.int r)] [] h n 0 0
  refine g_iload_n hX dX5_isRinger_0 rfl rfl ?_
  refine g_iconst (v := (nI 0)) hX dX5_isRinger_1 (by decide) ?_
  refine g_aload_n hX dX5_isRinger_2 rfl rfl ?_
  refine g_getf hX dX5_isRinger_3 fl_X5_56 (m0) rfl ?_
  refine g_iconst (v := (nI 1)) hX dX5_isRinger_6 (by decide) ?_
  refine g_isub hX dX5_isRinger_7 ?_
  refine g_callS (As := [.int r, .int (nI 0), .int (nI rc - nI 1)]) hX dX5_isRinger_8 cb_X5_isIn ml_X5_59 st_X5_isIn rfl rfl (kX5_isIn_x hst (hz.imp id (gn_rg hb))) (Nat.le_of_ble_eq_true rfl) (Nat.le_of_ble_eq_true rfl) (by omega) (by omega) (Nat.le_of_ble_eq_true rfl) GX.no (pq ?_)
  show GW X 11 [some (.ref 40), some (.int r)] [.int (nI 0)] h n 0 0
  refine g_zreturn hX hr (by decide) dX5_isRinger_11 (Nat.le_refl _) (Nat.le_refl _)  ?_
  exact ⟨rfl, rfl, rfl⟩
set_option maxRecDepth 20000 in
theorem kX5_isMethod {l : Launch} {K : gw_K} (hst : l.stackTraces = false) {n : Nat} {h : gw_H} {rc mc : Nat} {thr tch frs len : Int32} {r : Nat} (m0 : h 40 = (oB 5 [.int thr, .int (nI rc), .ref 41, .ref 42, .ref 43, .int (nI mc), .ref 44, .ref 45, .int tch, .int frs, .ref 46, .ref 47, .int len, .ref 48, .ref 49, .ref 50, .ref 51, .ref 56])) (hz : r < mc) (hb : mc ≤ 20) : Ctr l K mX5_isMethod [.ref 40, .int (nI r)] h n 0 0 (PQ (some (.int (nI 1))) h n) (PX0) := by
  refine Ctr.of hst pn_X5_isMethod (Nat.le_of_ble_eq_true rfl) (fun X hX hr hE => ?_)
  have hX : FX l K X cX5_isMethod RX5 1 22 0 0 := hX
  show GW X 0 [some (.ref 40), some (.int (nI r))] [] h n 0 0
  refine g_iload_n hX dX5_isMethod_0 rfl rfl ?_
  refine g_iconst (v := (nI 0)) hX dX5_isMethod_1 (by decide) ?_
  refine g_aload_n hX dX5_isMethod_2 rfl rfl ?_
  refine g_getf hX dX5_isMethod_3 fl_X5_63 (m0) rfl ?_
  refine g_iconst (v := (nI 1)) hX dX5_isMethod_6 (by decide) ?_
  refine g_isubN hX dX5_isMethod_7 (by omega) ?_
  refine g_callS (As := [.int (nI r), .int (nI 0), .int (nI (mc - 1))]) hX dX5_isMethod_8 cb_X5_isIn ml_X5_59 st_X5_isIn rfl rfl (kX5_isIn hst (gn_okW (by omega) (by omega) (by omega))) (Nat.le_of_ble_eq_true rfl) (Nat.le_of_ble_eq_true rfl) (by omega) (by omega) (Nat.le_of_ble_eq_true rfl) GX.no (pq ?_)
  show GW X 11 [some (.ref 40), some (.int (nI r))] [.int (nI 1)] h n 0 0
  refine g_zreturn hX hr (by decide) dX5_isMethod_11 (Nat.le_refl _) (Nat.le_refl _)  ?_
  exact ⟨rfl, rfl, rfl⟩
set_option maxRecDepth 20000 in
theorem kX5_isMethod_x {l : Launch} {K : gw_K} (hst : l.stackTraces = false) {n : Nat} {h : gw_H} {rc mc : Nat} {thr tch frs len : Int32} {r : Int32} (m0 : h 40 = (oB 5 [.int thr, .int (nI rc), .ref 41, .ref 42, .ref 43, .int (nI mc), .ref 44, .ref 45, .int tch, .int frs, .ref 46, .ref 47, .int len, .ref 48, .ref 49, .ref 50, .ref 51, .ref 56])) (hz : r < 0 ∨ nI mc ≤ r) (hb : mc ≤ 20) : Ctr l K mX5_isMethod [.ref 40, .int r] h n 0 0 (PQ (some (.int (nI 0))) h n) (PX0) := by
  refine Ctr.of hst pn_X5_isMethod (Nat.le_of_ble_eq_true rfl) (fun X hX hr hE => ?_)
  have hX : FX l K X cX5_isMethod RX5 1 22 0 0 := hX
  show GW X 0 [some (.ref 40), some (.int r)] [] h n 0 0
  refine g_iload_n hX dX5_isMethod_0 rfl rfl ?_
  refine g_iconst (v := (nI 0)) hX dX5_isMethod_1 (by decide) ?_
  refine g_aload_n hX dX5_isMethod_2 rfl rfl ?_
  refine g_getf hX dX5_isMethod_3 fl_X5_63 (m0) rfl ?_
  refine g_iconst (v := (nI 1)) hX dX5_isMethod_6 (by decide) ?_
  refine g_isub hX dX5_isMethod_7 ?_
  refine g_callS (As := [.int r, .int (nI 0), .int (nI mc - nI 1)]) hX dX5_isMethod_8 cb_X5_isIn ml_X5_59 st_X5_isIn rfl rfl (kX5_isIn_x hst (hz.imp id (gn_rg hb))) (Nat.le_of_ble_eq_true rfl) (Nat.le_of_ble_eq_true rfl) (by omega) (by omega) (Nat.le_of_ble_eq_true rfl) GX.no (pq ?_)
  show GW X 11 [some (.ref 40), some (.int r)] [.int (nI 0)] h n 0 0
  refine g_zreturn hX hr (by decide) dX5_isMethod_11 (Nat.le_refl _) (Nat.le_refl _)  ?_
  exact ⟨rfl, rfl, rfl⟩
set_option maxRecDepth 20000 in
theorem kX5_isSeat {l : Launch} {K : gw_K} (hst : l.stackTraces = false) {a b n : Nat} {h : gw_H}  (ha : a < 3) (hb : b < 6) : Ctr l K mX5_isSeat [.int (nI a), .int (nI b)] h n 0 0 (PQ (some (.int (nI 1))) h n) (PX0) := by
  refine Ctr.of hst pn_X5_isSeat (Nat.le_of_ble_eq_true rfl) (fun X hX hr hE => ?_)
  have hX : FX l K X cX5_isSeat RX5 1 22 0 0 := hX
  show GW X 0 [some (.int (nI a)), some (.int (nI b))] [] h n 0 0
  refine g_iload_n hX dX5_isSeat_0 rfl rfl ?_
  refine g_iconst (v := (nI 0)) hX dX5_isSeat_1 (by decide) ?_
  refine g_iconst (v := (nI 2)) hX dX5_isSeat_2 (by decide) ?_
  refine g_callS (As := [.int (nI a), .int (nI 0), .int (nI 2)]) hX dX5_isSeat_3 cb_X5_isIn ml_X5_59 st_X5_isIn rfl rfl (kX5_isIn hst (gn_okW (by omega) (by omega) (by omega))) (Nat.le_of_ble_eq_true rfl) (Nat.le_of_ble_eq_true rfl) (by omega) (by omega) (Nat.le_of_ble_eq_true rfl) GX.no (pq ?_)
  show GW X 6 [some (.int (nI a)), some (.int (nI b))] [.int (nI 1)] h n 0 0
  refine g_if_eq (tgt := 22) hX dX5_isSeat_6 (by decide) (fun c => absurd c (by decide)) (fun _ => ?_)
  refine g_iload_n hX dX5_isSeat_9 rfl rfl ?_
  refine g_iconst (v := (nI 0)) hX dX5_isSeat_10 (by decide) ?_
  refine g_iconst (v := (nI 5)) hX dX5_isSeat_11 (by decide) ?_
  refine g_callS (As := [.int (nI b), .int (nI 0), .int (nI 5)]) hX dX5_isSeat_12 cb_X5_isIn ml_X5_59 st_X5_isIn rfl rfl (kX5_isIn hst (gn_okW (by omega) (by omega) (by omega))) (Nat.le_of_ble_eq_true rfl) (Nat.le_of_ble_eq_true rfl) (by omega) (by omega) (Nat.le_of_ble_eq_true rfl) GX.no (pq ?_)
  show GW X 15 [some (.int (nI a)), some (.int (nI b))] [.int (nI 1)] h n 0 0
  refine g_if_eq (tgt := 22) hX dX5_isSeat_15 (by decide) (fun c => absurd c (by decide)) (fun _ => ?_)
  refine g_iconst (v := (nI 1)) hX dX5_isSeat_18 (by decide) ?_
  refine g_goto (tgt := 23) hX dX5_isSeat_19 (by decide) ?_
  refine g_zreturn hX hr (by decide) dX5_isSeat_23 (Nat.le_refl _) (Nat.le_refl _)  ?_
  exact ⟨rfl, rfl, rfl⟩
set_option maxRecDepth 20000 in
theorem kX5_isSeat_x {l : Launch} {K : gw_K} (hst : l.stackTraces = false) {a b : Int32} {n : Nat} {h : gw_H}  (hz : (a < 0 ∨ nI 3 ≤ a) ∨ (b < 0 ∨ nI 6 ≤ b)) : Ctr l K mX5_isSeat [.int a, .int b] h n 0 0 (PQ (some (.int (nI 0))) h n) (PX0) := by
  refine Ctr.of hst pn_X5_isSeat (Nat.le_of_ble_eq_true rfl) (fun X hX hr hE => ?_)
  have hX : FX l K X cX5_isSeat RX5 1 22 0 0 := hX
  show GW X 0 [some (.int a), some (.int b)] [] h n 0 0
  refine g_iload_n hX dX5_isSeat_0 rfl rfl ?_
  refine g_iconst (v := (nI 0)) hX dX5_isSeat_1 (by decide) ?_
  refine g_iconst (v := (nI 2)) hX dX5_isSeat_2 (by decide) ?_
  rcases Classical.em (a < 0 ∨ nI 3 ≤ a) with g9 | g9
  · refine g_callS (As := [.int a, .int (nI 0), .int (nI 2)]) hX dX5_isSeat_3 cb_X5_isIn ml_X5_59 st_X5_isIn rfl rfl (kX5_isIn_x hst (g9.imp id (gn_up (by omega)))) (Nat.le_of_ble_eq_true rfl) (Nat.le_of_ble_eq_true rfl) (by omega) (by omega) (Nat.le_of_ble_eq_true rfl) GX.no (pq ?_)
    show GW X 6 [some (.int a), some (.int b)] [.int (nI 0)] h n 0 0
    refine g_if_eq (tgt := 22) hX dX5_isSeat_6 (by decide) (fun _ => ?_) (fun c => absurd (by decide) c)
    refine g_iconst (v := (nI 0)) hX dX5_isSeat_22 (by decide) ?_
    refine g_zreturn hX hr (by decide) dX5_isSeat_23 (Nat.le_refl _) (Nat.le_refl _)  ?_
    exact ⟨rfl, rfl, rfl⟩
  · refine g_callS (As := [.int a, .int (nI 0), .int (nI 2)]) hX dX5_isSeat_3 cb_X5_isIn ml_X5_59 st_X5_isIn rfl rfl (kX5_isIn hst (fun q => g9 (q.imp id (gn_dn (by omega))))) (Nat.le_of_ble_eq_true rfl) (Nat.le_of_ble_eq_true rfl) (by omega) (by omega) (Nat.le_of_ble_eq_true rfl) GX.no (pq ?_)
    show GW X 6 [some (.int a), some (.int b)] [.int (nI 1)] h n 0 0
    refine g_if_eq (tgt := 22) hX dX5_isSeat_6 (by decide) (fun c => absurd c (by decide)) (fun _ => ?_)
    refine g_iload_n hX dX5_isSeat_9 rfl rfl ?_
    refine g_iconst (v := (nI 0)) hX dX5_isSeat_10 (by decide) ?_
    refine g_iconst (v := (nI 5)) hX dX5_isSeat_11 (by decide) ?_
    refine g_callS (As := [.int b, .int (nI 0), .int (nI 5)]) hX dX5_isSeat_12 cb_X5_isIn ml_X5_59 st_X5_isIn rfl rfl (kX5_isIn_x hst ((hz.resolve_left g9).imp id (gn_up (by omega)))) (Nat.le_of_ble_eq_true rfl) (Nat.le_of_ble_eq_true rfl) (by omega) (by omega) (Nat.le_of_ble_eq_true rfl) GX.no (pq ?_)
    show GW X 15 [some (.int a), some (.int b)] [.int (nI 0)] h n 0 0
    refine g_if_eq (tgt := 22) hX dX5_isSeat_15 (by decide) (fun _ => ?_) (fun c => absurd (by decide) c)
    refine g_iconst (v := (nI 0)) hX dX5_isSeat_22 (by decide) ?_
    refine g_zreturn hX hr (by decide) dX5_isSeat_23 (Nat.le_refl _) (Nat.le_refl _)  ?_
    exact ⟨rfl, rfl, rfl⟩
set_option maxRecDepth 20000 in
theorem kX5_thrown {l : Launch} {K : gw_K} (hst : l.stackTraces = false) {n : Nat} {h : gw_H} {rc mc : Nat} {thr tch frs len : Int32}  (m0 : h 40 = (oB 5 [.int thr, .int (nI rc), .ref 41, .ref 42, .ref 43, .int (nI mc), .ref 44, .ref 45, .int tch, .int frs, .ref 46, .ref 47, .int len, .ref 48, .ref 49, .ref 50, .ref 51, .ref 56]))  : Ctr l K mX5_thrown [.ref 40] h n 0 0 (PQ (some (.int thr)) h n) (PX0) := by
  refine Ctr.of hst pn_X5_thrown (Nat.le_of_ble_eq_true rfl) (fun X hX hr hE => ?_)
  have hX : FX l K X cX5_thrown RX5 0 0 0 0 := hX
  show GW X 0 [some (.ref 40)] [] h n 0 0
  refine g_aload_n hX dX5_thrown_0 rfl rfl ?_
  refine g_getf hX dX5_thrown_1 fl_X5_52 (m0) rfl ?_
  refine g_ireturn hX hr dX5_thrown_4 (Nat.le_refl _) (Nat.le_refl _)  ?_
  exact ⟨rfl, rfl, rfl⟩
set_option maxRecDepth 20000 in
theorem kX5_no {l : Launch} {K : gw_K} (hst : l.stackTraces = false) {n : Nat} {h : gw_H} {rc mc : Nat} {thr tch frs len : Int32} {e : Int32} (m0 : h 40 = (oB 5 [.int thr, .int (nI rc), .ref 41, .ref 42, .ref 43, .int (nI mc), .ref 44, .ref 45, .int tch, .int frs, .ref 46, .ref 47, .int len, .ref 48, .ref 49, .ref 50, .ref 51, .ref 56]))  : Ctr l K mX5_no [.ref 40, .int e] h n 0 0 (PQ (some (.int (nI 0))) (hs h 40 (oB 5 [.int e, .int (nI rc), .ref 41, .ref 42, .ref 43, .int (nI mc), .ref 44, .ref 45, .int tch, .int frs, .ref 46, .ref 47, .int len, .ref 48, .ref 49, .ref 50, .ref 51, .ref 56])) n) (PX0) := by
  refine Ctr.of hst pn_X5_no (Nat.le_of_ble_eq_true rfl) (fun X hX hr hE => ?_)
  have hX : FX l K X cX5_no RX5 0 0 0 0 := hX
  show GW X 0 [some (.ref 40), some (.int e)] [] h n 0 0
  refine g_aload_n hX dX5_no_0 rfl rfl ?_
  refine g_iload_n hX dX5_no_1 rfl rfl ?_
  refine g_putI hX dX5_no_2 fl_X5_52 (m0) (Nat.le_of_ble_eq_true rfl) ?_
  show GW X 5 [some (.ref 40), some (.int e)] [] (hs h 40 (oB 5 [.int e, .int (nI rc), .ref 41, .ref 42, .ref 43, .int (nI mc), .ref 44, .ref 45, .int tch, .int frs, .ref 46, .ref 47, .int len, .ref 48, .ref 49, .ref 50, .ref 51, .ref 56])) n 0 0
  refine g_iconst (v := (nI 0)) hX dX5_no_5 (by decide) ?_
  refine g_ireturn hX hr dX5_no_6 (Nat.le_refl _) (Nat.le_refl _)  ?_
  exact ⟨rfl, rfl, rfl⟩
set_option maxRecDepth 20000 in
theorem kX5_code {l : Launch} {K : gw_K} (hst : l.stackTraces = false) {n : Nat} {h : gw_H} {rc mc : Nat} {thr tch frs len : Int32} {p : Nat → Nat} (m0 : h 40 = (oB 5 [.int thr, .int (nI rc), .ref 41, .ref 42, .ref 43, .int (nI mc), .ref 44, .ref 45, .int tch, .int frs, .ref 46, .ref 47, .int len, .ref 48, .ref 49, .ref 50, .ref 51, .ref 56])) (mrw : h 48 = (aI 6 (fun b => nI (p b))))  : Ctr l K mX5_code [.ref 40] h n 0 0 (PQ (some (.int (nI (codN p)))) h n) (PX0) := by
  refine Ctr.of hst pn_X5_code (Nat.le_of_ble_eq_true rfl) (fun X hX hr hE => ?_)
  have hX : FX l K X cX5_code RX5 0 0 0 0 := hX
  show GW X 0 [some (.ref 40), none, none, none, none, none] [] h n 0 0
  refine g_iconst (v := (nI 0)) hX dX5_code_0 (by decide) ?_
  refine g_istore_n (i := 1) hX dX5_code_1 rfl (Nat.le_of_ble_eq_true rfl) rfl ?_
  refine g_aload_n hX dX5_code_2 rfl rfl ?_
  refine g_getf hX dX5_code_3 fl_X5_31 (m0) rfl ?_
  refine g_astore_n (i := 2) hX dX5_code_6 rfl (Nat.le_of_ble_eq_true rfl) rfl ?_
  refine g_aload_n hX dX5_code_7 rfl rfl ?_
  refine g_alen_aI hX dX5_code_8 (mrw) ?_
  refine g_istore_n (i := 3) hX dX5_code_9 rfl (Nat.le_of_ble_eq_true rfl) rfl ?_
  refine g_iconst (v := (nI 0)) hX dX5_code_10 (by decide) ?_
  refine g_istore hX dX5_code_11 (Nat.le_of_ble_eq_true rfl) rfl ?_
  refine g_for (P := fun (i : Nat) (s : Nat) => GW X 13 [some (.ref 40), some (.int (nI s)), some (.ref 48), some (.int (nI 6)), some (.int (nI i)), none] [] h n 0 0) (step := fun i s => 6 * s + p i) 6 0 ?_ ?_
  · intro i1 s2 hi1 es2 ihi1
    have ihi1 : GW X 13 [some (.ref 40), some (.int (nI (6 * s2 + p i1))), some (.ref 48), some (.int (nI 6)), some (.int (nI (i1 + 1))), none] [] h n 0 0 := ihi1
    refine g_iload hX dX5_code_13 rfl ?_
    refine g_iload_n hX dX5_code_15 rfl rfl ?_
    refine g_icmp_geN (tgt := 39) hX dX5_code_16 (by decide) (by omega) (fun c3 => absurd c3 (by omega)) (fun c3 => ?_)
    refine g_aload_n hX dX5_code_19 rfl rfl ?_
    refine g_iload hX dX5_code_20 rfl ?_
    refine g_iaload hX dX5_code_22 (mrw) (i1) (by omega) rfl (by omega) ?_
    refine g_istore hX dX5_code_23 (Nat.le_of_ble_eq_true rfl) rfl ?_
    refine g_bipush (v := (nI 6)) hX dX5_code_25 (by decide) ?_
    refine g_iload_n hX dX5_code_27 rfl rfl ?_
    refine g_imulN hX dX5_code_28 ?_
    refine g_iload hX dX5_code_29 rfl ?_
    refine g_iaddN hX dX5_code_31 ?_
    refine g_istore_n (i := 1) hX dX5_code_32 rfl (Nat.le_of_ble_eq_true rfl) rfl ?_
    refine g_iinc (v := (nI (i1 + 1))) hX dX5_code_33 rfl rfl (gn_inc _ _) ?_
    refine g_goto (tgt := 13) hX dX5_code_36 (by decide) ?_
    refine g_kill 5 ?_
    refine g_cv ihi1 rfl rfl
  · refine g_iload hX dX5_code_13 rfl ?_
    refine g_iload_n hX dX5_code_15 rfl rfl ?_
    refine g_icmp_ge (tgt := 39) hX dX5_code_16 (by decide) (fun _ => ?_) (fun c => absurd (by decide) c)
    refine g_iload_n hX dX5_code_39 rfl rfl ?_
    refine g_ireturn hX hr dX5_code_40 (Nat.le_refl _) (Nat.le_refl _)  ?_
    exact ⟨rfl, rfl, rfl⟩
set_option maxRecDepth 20000 in
theorem kX5_walkChanges {l : Launch} {K : gw_K} (hst : l.stackTraces = false) {n : Nat} {h : gw_H} {rc mc : Nat} {thr tch frs len : Int32} {mn : Nat → Nat} {cs co dg go we rw_ : Nat → Int32} {m nn : Nat} (m0 : h 40 = (oB 5 [.int thr, .int (nI rc), .ref 41, .ref 42, .ref 43, .int (nI mc), .ref 44, .ref 45, .int tch, .int frs, .ref 46, .ref 47, .int len, .ref 48, .ref 49, .ref 50, .ref 51, .ref 56])) (mmn : h 44 = (aI 5 (fun k => nI (mn k)))) (mcs : h 45 = (aI 60 cs)) (mco : h 46 = (aI 201 co)) (mdg : h 47 = (aI 201 dg)) (mrw : h 48 = (aI 6 rw_)) (mgo : h 49 = (aI 6 go)) (mwe : h 50 = (aI 6 we)) (hm5 : m < 5) (hnn : nn ≤ 200) (hmn : nn = 0 ∨ 0 < mn m ∧ mn m ≤ 12) : Ctr l K mX5_walkChanges [.ref 40, .int (nI m), .int (nI nn)] h n 0 0 (PWk none (hs h 40 (oB 5 [.int thr, .int (nI rc), .ref 41, .ref 42, .ref 43, .int (nI mc), .ref 44, .ref 45, .int tch, .int frs, .ref 46, .ref 47, .int (nI nn), .ref 48, .ref 49, .ref 50, .ref 51, .ref 56])) n (chM cs mn m) nn) (PX0) := by
  refine Ctr.of hst pn_X5_walkChanges (Nat.le_of_ble_eq_true rfl) (fun X hX hr hE => ?_)
  have hX : FX l K X cX5_walkChanges RX5 1 25 0 0 := hX
  show GW X 0 [some (.ref 40), some (.int (nI m)), some (.int (nI nn)), none, none, none, none, none] [] h n 0 0
  refine g_iconst (v := (nI 0)) hX dX5_walkChanges_0 (by decide) ?_
  refine g_istore_n (i := 3) hX dX5_walkChanges_1 rfl (Nat.le_of_ble_eq_true rfl) rfl ?_
  refine g_cg (L' := [some (.ref 40), some (.int (nI m)), some (.int (nI nn)), some (.int (nI 0)), none, none, none, none]) (h' := (hs (hs h 48 (aI 6 (ltA 0 (fun b => nI b) rw_))) 50 (aI 6 (ltA 0 (fun _ => nI 0) we)))) (by rfl) (by rw [ltA_0, ltA_0, hs_id mrw, hs_id mwe]) ?_
  refine g_loop (P := fun (i : Nat) => GW X 2 [some (.ref 40), some (.int (nI m)), some (.int (nI nn)), some (.int (nI i)), none, none, none, none] [] (hs (hs h 48 (aI 6 (ltA i (fun b => nI b) rw_))) 50 (aI 6 (ltA i (fun _ => nI 0) we))) n 0 0) (fun i => True) 6 trivial ?_ ?_
  · intro i1 hi1 Ii1 ihi1
    have ihi1 : True → GW X 2 [some (.ref 40), some (.int (nI m)), some (.int (nI nn)), some (.int (nI (i1 + 1))), none, none, none, none] [] (hs (hs h 48 (aI 6 (ltA (i1 + 1) (fun b => nI b) rw_))) 50 (aI 6 (ltA (i1 + 1) (fun _ => nI 0) we))) n 0 0 := ihi1
    refine g_iload_n hX dX5_walkChanges_2 rfl rfl ?_
    refine g_bipush (v := (nI 6)) hX dX5_walkChanges_3 (by decide) ?_
    refine g_icmp_geN (tgt := 28) hX dX5_walkChanges_5 (by decide) (by omega) (fun c2 => absurd c2 (by omega)) (fun c2 => ?_)
    refine g_aload_n hX dX5_walkChanges_8 rfl rfl ?_
    refine g_getf hX dX5_walkChanges_9 fl_X5_31 ((hs_ne (by omega)).trans ((hs_ne (by omega)).trans (m0))) rfl ?_
    refine g_iload_n hX dX5_walkChanges_12 rfl rfl ?_
    refine g_iload_n hX dX5_walkChanges_13 rfl rfl ?_
    refine g_iastore hX dX5_walkChanges_14 ((hs_ne (by omega)).trans (hs_eq _ _ _)) (i1) (by omega) rfl (by omega) ?_
    refine g_aload_n hX dX5_walkChanges_15 rfl rfl ?_
    refine g_getf hX dX5_walkChanges_16 fl_X5_37 ((hs_ne (by omega)).trans ((hs_ne (by omega)).trans ((hs_ne (by omega)).trans (m0)))) rfl ?_
    refine g_iload_n hX dX5_walkChanges_19 rfl rfl ?_
    refine g_iconst (v := (nI 0)) hX dX5_walkChanges_20 (by decide) ?_
    refine g_iastore hX dX5_walkChanges_21 ((hs_ne (by omega)).trans (hs_eq _ _ _)) (i1) (by omega) rfl (by omega) ?_
    refine g_iinc (v := (nI (i1 + 1))) hX dX5_walkChanges_22 rfl rfl (gn_inc _ _) ?_
    refine g_goto (tgt := 2) hX dX5_walkChanges_25 (by decide) ?_
    refine g_cg (h' := (hs (hs h 48 (aI 6 (upd (ltA i1 (fun b => nI b) rw_) i1 (nI i1)))) 50 (aI 6 (upd (ltA i1 (fun _ => nI 0) we) i1 (nI 0))))) rfl (by rw [hs_cm (k := 48) (j := 50) _ _ _ (by omega), hs_hs (k := 48), hs_hs (k := 50)]) ?_
    refine g_heq (h' := (hs (hs h 48 (aI 6 (ltA (i1 + 1) (fun b => nI b) rw_))) 50 (aI 6 (ltA (i1 + 1) (fun _ => nI 0) we)))) (ceq_hs (ceq_hs (fun _ => ceq_r) (ceq_I fun k hk => congrFun (ltA_up i1 (fun b => nI b) rw_ rfl) k)) (ceq_I fun k hk => congrFun (ltA_up i1 (fun _ => nI 0) we rfl) k)) ?_
    show GW X 2 [some (.ref 40), some (.int (nI m)), some (.int (nI nn)), some (.int (nI (i1 + 1))), none, none, none, none] [] (hs (hs h 48 (aI 6 (ltA (i1 + 1) (fun b => nI b) rw_))) 50 (aI 6 (ltA (i1 + 1) (fun _ => nI 0) we))) n 0 0
    refine g_cv (ihi1 (trivial)) rfl rfl
  · intro IN3
    refine g_iload_n hX dX5_walkChanges_2 rfl rfl ?_
    refine g_bipush (v := (nI 6)) hX dX5_walkChanges_3 (by decide) ?_
    refine g_icmp_ge (tgt := 28) hX dX5_walkChanges_5 (by decide) (fun _ => ?_) (fun c => absurd (by decide) c)
    refine g_heq (h' := (hs (hs h 48 (aI 6 (fun b => nI ((fun b => b) b)))) 50 (aI 6 (fun _ => nI 0)))) (ceq_hs (ceq_hs (fun _ => ceq_r) (ceq_I fun k hk => ltA_N hk)) (ceq_I fun k hk => ltA_N hk)) ?_
    show GW X 28 [some (.ref 40), some (.int (nI m)), some (.int (nI nn)), some (.int (nI 6)), none, none, none, none] [] (hs (hs h 48 (aI 6 (fun b => nI ((fun b => b) b)))) 50 (aI 6 (fun _ => nI 0))) n 0 0
    refine g_aload_n hX dX5_walkChanges_28 rfl rfl ?_
    refine g_iload_n hX dX5_walkChanges_29 rfl rfl ?_
    refine g_putI hX dX5_walkChanges_30 fl_X5_66 ((hs_ne (by omega)).trans ((hs_ne (by omega)).trans (m0))) (Nat.le_of_ble_eq_true rfl) ?_
    show GW X 33 [some (.ref 40), some (.int (nI m)), some (.int (nI nn)), some (.int (nI 6)), none, none, none, none] [] (hs (hs (hs h 48 (aI 6 (fun b => nI ((fun b => b) b)))) 50 (aI 6 (fun _ => nI 0))) 40 (oB 5 [.int thr, .int (nI rc), .ref 41, .ref 42, .ref 43, .int (nI mc), .ref 44, .ref 45, .int tch, .int frs, .ref 46, .ref 47, .int (nI nn), .ref 48, .ref 49, .ref 50, .ref 51, .ref 56])) n 0 0
    refine g_aload_n hX dX5_walkChanges_33 rfl rfl ?_
    refine g_getf hX dX5_walkChanges_34 fl_X5_25 (hs_eq _ _ _) rfl ?_
    refine g_iconst (v := (nI 0)) hX dX5_walkChanges_37 (by decide) ?_
    refine g_sipush (v := (nI 1865)) hX dX5_walkChanges_38 (by decide) ?_
    refine g_iastore hX dX5_walkChanges_41 ((hs_ne (by omega)).trans ((hs_ne (by omega)).trans ((hs_ne (by omega)).trans (mco)))) (0) (by omega) rfl (by omega) ?_
    refine g_iconst (v := (nI 1)) hX dX5_walkChanges_42 (by decide) ?_
    refine g_istore_n (i := 3) hX dX5_walkChanges_43 rfl (Nat.le_of_ble_eq_true rfl) rfl ?_
    refine g_cg (h' := (hs (hs (hs (hs (hs h 48 (aI 6 (fun b => nI ((fun b => b) b)))) 50 (aI 6 (fun _ => nI 0))) 40 (oB 5 [.int thr, .int (nI rc), .ref 41, .ref 42, .ref 43, .int (nI mc), .ref 44, .ref 45, .int tch, .int frs, .ref 46, .ref 47, .int (nI nn), .ref 48, .ref 49, .ref 50, .ref 51, .ref 56])) 46 (aI 201 (upd co 0 (nI 1865)))) 47 (aI 201 dg))) rfl (hs_id ((hs_ne (by omega)).trans ((hs_ne (by omega)).trans ((hs_ne (by omega)).trans ((hs_ne (by omega)).trans (mdg)))))).symm ?_
    refine g_cg (h' := (hs (hs (hs (hs (hs (hs h 48 (aI 6 (fun b => nI ((fun b => b) b)))) 50 (aI 6 (fun _ => nI 0))) 40 (oB 5 [.int thr, .int (nI rc), .ref 41, .ref 42, .ref 43, .int (nI mc), .ref 44, .ref 45, .int tch, .int frs, .ref 46, .ref 47, .int (nI nn), .ref 48, .ref 49, .ref 50, .ref 51, .ref 56])) 46 (aI 201 (upd co 0 (nI 1865)))) 47 (aI 201 dg)) 49 (aI 6 go))) rfl (hs_id ((hs_ne (by omega)).trans ((hs_ne (by omega)).trans ((hs_ne (by omega)).trans ((hs_ne (by omega)).trans ((hs_ne (by omega)).trans (mgo))))))).symm ?_
    refine g_cg (h' := (hs (hs (hs (hs (hs (hs h 40 (oB 5 [.int thr, .int (nI rc), .ref 41, .ref 42, .ref 43, .int (nI mc), .ref 44, .ref 45, .int tch, .int frs, .ref 46, .ref 47, .int (nI nn), .ref 48, .ref 49, .ref 50, .ref 51, .ref 56])) 46 (aI 201 (upd co 0 (nI 1865)))) 47 (aI 201 dg)) 48 (aI 6 (fun b => nI ((fun b => b) b)))) 49 (aI 6 go)) 50 (aI 6 (fun _ => nI 0)))) rfl (by rw [hs_cm (k := 40) (j := 50) _ _ _ (by omega), hs_cm (k := 40) (j := 48) _ _ _ (by omega), hs_cm (k := 46) (j := 50) _ _ _ (by omega), hs_cm (k := 46) (j := 48) _ _ _ (by omega), hs_cm (k := 47) (j := 50) _ _ _ (by omega), hs_cm (k := 47) (j := 48) _ _ _ (by omega), hs_cm (k := 49) (j := 50) _ _ _ (by omega)]) ?_
    show GW X 44 [some (.ref 40), some (.int (nI m)), some (.int (nI nn)), some (.int (nI 1)), none, none, none, none] [] (hs (hs (hs (hs (hs (hs h 40 (oB 5 [.int thr, .int (nI rc), .ref 41, .ref 42, .ref 43, .int (nI mc), .ref 44, .ref 45, .int tch, .int frs, .ref 46, .ref 47, .int (nI nn), .ref 48, .ref 49, .ref 50, .ref 51, .ref 56])) 46 (aI 201 (upd co 0 (nI 1865)))) 47 (aI 201 dg)) 48 (aI 6 (fun b => nI ((fun b => b) b)))) 49 (aI 6 go)) 50 (aI 6 (fun _ => nI 0))) n 0 0
    refine g_heq (h' := (hs (hs (hs (hs (hs (hs h 40 (oB 5 [.int thr, .int (nI rc), .ref 41, .ref 42, .ref 43, .int (nI mc), .ref 44, .ref 45, .int tch, .int frs, .ref 46, .ref 47, .int (nI nn), .ref 48, .ref 49, .ref 50, .ref 51, .ref 56])) 46 (aI 201 (ltA (0 + 1) (codI (chM cs mn m)) co))) 47 (aI 201 (ltA (0 + 1) (gdI dg (chM cs mn m)) dg))) 48 (aI 6 (fun b => nI ((fun b => b) b)))) 49 (aI 6 go)) 50 (aI 6 (fun _ => nI 0)))) (ceq_hs (ceq_hs (ceq_hs (ceq_hs (ceq_hs (ceq_hs (fun _ => ceq_r) ceq_r) (ceq_I fun k hk => co_0)) (ceq_I fun k hk => dg_0)) ceq_r) ceq_r) ceq_r) ?_
    show GW X 44 [some (.ref 40), some (.int (nI m)), some (.int (nI nn)), some (.int (nI 1)), none, none, none, none] [] (hs (hs (hs (hs (hs (hs h 40 (oB 5 [.int thr, .int (nI rc), .ref 41, .ref 42, .ref 43, .int (nI mc), .ref 44, .ref 45, .int tch, .int frs, .ref 46, .ref 47, .int (nI nn), .ref 48, .ref 49, .ref 50, .ref 51, .ref 56])) 46 (aI 201 (ltA (0 + 1) (codI (chM cs mn m)) co))) 47 (aI 201 (ltA (0 + 1) (gdI dg (chM cs mn m)) dg))) 48 (aI 6 (fun b => nI ((fun b => b) b)))) 49 (aI 6 go)) 50 (aI 6 (fun _ => nI 0))) n 0 0
    refine g_cg (L' := [some (.ref 40), some (.int (nI m)), some (.int (nI nn)), some (.int (nI (0 + 1))), none, none, none, none]) (h' := (hs (hs (hs (hs (hs (hs h 40 (oB 5 [.int thr, .int (nI rc), .ref 41, .ref 42, .ref 43, .int (nI mc), .ref 44, .ref 45, .int tch, .int frs, .ref 46, .ref 47, .int (nI nn), .ref 48, .ref 49, .ref 50, .ref 51, .ref 56])) 46 (aI 201 (ltA (0 + 1) (codI (chM cs mn m)) co))) 47 (aI 201 (ltA (0 + 1) (gdI dg (chM cs mn m)) dg))) 48 (aI 6 (fun b => nI (((wkI (chM cs mn m) 0).1) b)))) 49 (aI 6 (goI go (chM cs mn m) 0))) 50 (aI 6 ((wkI (chM cs mn m) 0).2)))) (by rfl) (by rfl) ?_
    refine g_loop (P := fun (i : Nat) => GW X 44 [some (.ref 40), some (.int (nI m)), some (.int (nI nn)), some (.int (nI (i + 1))), none, none, none, none] [] (hs (hs (hs (hs (hs (hs h 40 (oB 5 [.int thr, .int (nI rc), .ref 41, .ref 42, .ref 43, .int (nI mc), .ref 44, .ref 45, .int tch, .int frs, .ref 46, .ref 47, .int (nI nn), .ref 48, .ref 49, .ref 50, .ref 51, .ref 56])) 46 (aI 201 (ltA (i + 1) (codI (chM cs mn m)) co))) 47 (aI 201 (ltA (i + 1) (gdI dg (chM cs mn m)) dg))) 48 (aI 6 (fun b => nI (((wkI (chM cs mn m) i).1) b)))) 49 (aI 6 (goI go (chM cs mn m) i))) 50 (aI 6 ((wkI (chM cs mn m) i).2))) n 0 0) (fun i => True) nn trivial ?_ ?_
    · intro i4 hi4 Ii4 ihi4
      have ihi4 : True → GW X 44 [some (.ref 40), some (.int (nI m)), some (.int (nI nn)), some (.int (nI (i4 + 1 + 1))), none, none, none, none] [] (hs (hs (hs (hs (hs (hs h 40 (oB 5 [.int thr, .int (nI rc), .ref 41, .ref 42, .ref 43, .int (nI mc), .ref 44, .ref 45, .int tch, .int frs, .ref 46, .ref 47, .int (nI nn), .ref 48, .ref 49, .ref 50, .ref 51, .ref 56])) 46 (aI 201 (ltA (i4 + 1 + 1) (codI (chM cs mn m)) co))) 47 (aI 201 (ltA (i4 + 1 + 1) (gdI dg (chM cs mn m)) dg))) 48 (aI 6 (fun b => nI (((wkI (chM cs mn m) (i4 + 1)).1) b)))) 49 (aI 6 (goI go (chM cs mn m) (i4 + 1)))) 50 (aI 6 ((wkI (chM cs mn m) (i4 + 1)).2))) n 0 0 := ihi4
      refine g_iload_n hX dX5_walkChanges_44 rfl rfl ?_
      refine g_iload_n hX dX5_walkChanges_45 rfl rfl ?_
      refine g_icmp_gtN (tgt := 263) hX dX5_walkChanges_46 (by decide) (by omega) (fun c5 => absurd c5 (by omega)) (fun c5 => ?_)
      refine g_aload_n hX dX5_walkChanges_49 rfl rfl ?_
      refine g_getf hX dX5_walkChanges_50 fl_X5_22 ((hs_ne (by omega)).trans ((hs_ne (by omega)).trans ((hs_ne (by omega)).trans ((hs_ne (by omega)).trans ((hs_ne (by omega)).trans (hs_eq _ _ _)))))) rfl ?_
      refine g_bipush (v := (nI 12)) hX dX5_walkChanges_53 (by decide) ?_
      refine g_iload_n hX dX5_walkChanges_55 rfl rfl ?_
      refine g_imulN hX dX5_walkChanges_56 ?_
      refine g_iload_n hX dX5_walkChanges_57 rfl rfl ?_
      refine g_iconst (v := (nI 1)) hX dX5_walkChanges_58 (by decide) ?_
      refine g_isubN hX dX5_walkChanges_59 (by omega) ?_
      refine g_aload_n hX dX5_walkChanges_60 rfl rfl ?_
      refine g_getf hX dX5_walkChanges_61 fl_X5_19 ((hs_ne (by omega)).trans ((hs_ne (by omega)).trans ((hs_ne (by omega)).trans ((hs_ne (by omega)).trans ((hs_ne (by omega)).trans (hs_eq _ _ _)))))) rfl ?_
      refine g_iload_n hX dX5_walkChanges_64 rfl rfl ?_
      refine g_iaload hX dX5_walkChanges_65 ((hs_ne (by omega)).trans ((hs_ne (by omega)).trans ((hs_ne (by omega)).trans ((hs_ne (by omega)).trans ((hs_ne (by omega)).trans ((hs_ne (by omega)).trans (mmn))))))) (m) (by omega) rfl (by omega) ?_
      refine g_iremN hX dX5_walkChanges_66 (by omega) (by omega) (by omega) ?_
      refine g_iaddN hX dX5_walkChanges_67 ?_
      have hmd9 := Nat.mod_lt (i4 + 1 - 1) (show 0 < mn m by omega)
      refine g_iaload hX dX5_walkChanges_68 ((hs_ne (by omega)).trans ((hs_ne (by omega)).trans ((hs_ne (by omega)).trans ((hs_ne (by omega)).trans ((hs_ne (by omega)).trans ((hs_ne (by omega)).trans (mcs))))))) ((12 * m) + (((i4 + 1) - 1) % (mn m))) (by omega) rfl (by omega) ?_
      show GW X 69 [some (.ref 40), some (.int (nI m)), some (.int (nI nn)), some (.int (nI (i4 + 1))), none, none, none, none] [.int (chM cs mn m i4)] (hs (hs (hs (hs (hs (hs h 40 (oB 5 [.int thr, .int (nI rc), .ref 41, .ref 42, .ref 43, .int (nI mc), .ref 44, .ref 45, .int tch, .int frs, .ref 46, .ref 47, .int (nI nn), .ref 48, .ref 49, .ref 50, .ref 51, .ref 56])) 46 (aI 201 (ltA (i4 + 1) (codI (chM cs mn m)) co))) 47 (aI 201 (ltA (i4 + 1) (gdI dg (chM cs mn m)) dg))) 48 (aI 6 (fun b => nI (((wkI (chM cs mn m) i4).1) b)))) 49 (aI 6 (goI go (chM cs mn m) i4))) 50 (aI 6 ((wkI (chM cs mn m) i4).2))) n 0 0
      refine g_istore hX dX5_walkChanges_69 (Nat.le_of_ble_eq_true rfl) rfl ?_
      refine g_iconst (v := (nI 0)) hX dX5_walkChanges_71 (by decide) ?_
      refine g_istore hX dX5_walkChanges_72 (Nat.le_of_ble_eq_true rfl) rfl ?_
      refine g_cg (L' := [some (.ref 40), some (.int (nI m)), some (.int (nI nn)), some (.int (nI (i4 + 1))), some (.int (chM cs mn m i4)), some (.int (nI 0)), none, none]) (h' := (hs (hs (hs (hs (hs (hs h 40 (oB 5 [.int thr, .int (nI rc), .ref 41, .ref 42, .ref 43, .int (nI mc), .ref 44, .ref 45, .int tch, .int frs, .ref 46, .ref 47, .int (nI nn), .ref 48, .ref 49, .ref 50, .ref 51, .ref 56])) 46 (aI 201 (ltA (i4 + 1) (codI (chM cs mn m)) co))) 47 (aI 201 (ltA (i4 + 1) (gdI dg (chM cs mn m)) dg))) 48 (aI 6 (fun b => nI (((wkI (chM cs mn m) i4).1) b)))) 49 (aI 6 (ltA 0 (fun _ => 0) (goI go (chM cs mn m) i4)))) 50 (aI 6 ((wkI (chM cs mn m) i4).2)))) (by rfl) (by rw [ltA_0]) ?_
      refine g_loop (P := fun (i : Nat) => GW X 74 [some (.ref 40), some (.int (nI m)), some (.int (nI nn)), some (.int (nI (i4 + 1))), some (.int (chM cs mn m i4)), some (.int (nI i)), none, none] [] (hs (hs (hs (hs (hs (hs h 40 (oB 5 [.int thr, .int (nI rc), .ref 41, .ref 42, .ref 43, .int (nI mc), .ref 44, .ref 45, .int tch, .int frs, .ref 46, .ref 47, .int (nI nn), .ref 48, .ref 49, .ref 50, .ref 51, .ref 56])) 46 (aI 201 (ltA (i4 + 1) (codI (chM cs mn m)) co))) 47 (aI 201 (ltA (i4 + 1) (gdI dg (chM cs mn m)) dg))) 48 (aI 6 (fun b => nI (((wkI (chM cs mn m) i4).1) b)))) 49 (aI 6 (ltA i (fun _ => 0) (goI go (chM cs mn m) i4)))) 50 (aI 6 ((wkI (chM cs mn m) i4).2))) n 0 0) (fun i => True) 6 trivial ?_ ?_
      · intro i6 hi6 Ii6 ihi6
        have ihi6 : True → GW X 74 [some (.ref 40), some (.int (nI m)), some (.int (nI nn)), some (.int (nI (i4 + 1))), some (.int (chM cs mn m i4)), some (.int (nI (i6 + 1))), none, none] [] (hs (hs (hs (hs (hs (hs h 40 (oB 5 [.int thr, .int (nI rc), .ref 41, .ref 42, .ref 43, .int (nI mc), .ref 44, .ref 45, .int tch, .int frs, .ref 46, .ref 47, .int (nI nn), .ref 48, .ref 49, .ref 50, .ref 51, .ref 56])) 46 (aI 201 (ltA (i4 + 1) (codI (chM cs mn m)) co))) 47 (aI 201 (ltA (i4 + 1) (gdI dg (chM cs mn m)) dg))) 48 (aI 6 (fun b => nI (((wkI (chM cs mn m) i4).1) b)))) 49 (aI 6 (ltA (i6 + 1) (fun _ => 0) (goI go (chM cs mn m) i4)))) 50 (aI 6 ((wkI (chM cs mn m) i4).2))) n 0 0 := ihi6
        refine g_iload hX dX5_walkChanges_74 rfl ?_
        refine g_bipush (v := (nI 6)) hX dX5_walkChanges_76 (by decide) ?_
        refine g_icmp_geN (tgt := 95) hX dX5_walkChanges_78 (by decide) (by omega) (fun c7 => absurd c7 (by omega)) (fun c7 => ?_)
        refine g_aload_n hX dX5_walkChanges_81 rfl rfl ?_
        refine g_getf hX dX5_walkChanges_82 fl_X5_34 ((hs_ne (by omega)).trans ((hs_ne (by omega)).trans ((hs_ne (by omega)).trans ((hs_ne (by omega)).trans ((hs_ne (by omega)).trans (hs_eq _ _ _)))))) rfl ?_
        refine g_iload hX dX5_walkChanges_85 rfl ?_
        refine g_iconst (v := (nI 0)) hX dX5_walkChanges_87 (by decide) ?_
        refine g_iastore hX dX5_walkChanges_88 ((hs_ne (by omega)).trans (hs_eq _ _ _)) (i6) (by omega) rfl (by omega) ?_
        refine g_iinc (v := (nI (i6 + 1))) hX dX5_walkChanges_89 rfl rfl (gn_inc _ _) ?_
        refine g_goto (tgt := 74) hX dX5_walkChanges_92 (by decide) ?_
        refine g_cg (h' := (hs (hs (hs (hs (hs (hs h 40 (oB 5 [.int thr, .int (nI rc), .ref 41, .ref 42, .ref 43, .int (nI mc), .ref 44, .ref 45, .int tch, .int frs, .ref 46, .ref 47, .int (nI nn), .ref 48, .ref 49, .ref 50, .ref 51, .ref 56])) 46 (aI 201 (ltA (i4 + 1) (codI (chM cs mn m)) co))) 47 (aI 201 (ltA (i4 + 1) (gdI dg (chM cs mn m)) dg))) 48 (aI 6 (fun b => nI (((wkI (chM cs mn m) i4).1) b)))) 49 (aI 6 (upd (ltA i6 (fun _ => 0) (goI go (chM cs mn m) i4)) i6 (nI 0)))) 50 (aI 6 ((wkI (chM cs mn m) i4).2)))) rfl (by rw [hs_cm (k := 49) (j := 50) _ _ _ (by omega), hs_hs (k := 49)]) ?_
        refine g_heq (h' := (hs (hs (hs (hs (hs (hs h 40 (oB 5 [.int thr, .int (nI rc), .ref 41, .ref 42, .ref 43, .int (nI mc), .ref 44, .ref 45, .int tch, .int frs, .ref 46, .ref 47, .int (nI nn), .ref 48, .ref 49, .ref 50, .ref 51, .ref 56])) 46 (aI 201 (ltA (i4 + 1) (codI (chM cs mn m)) co))) 47 (aI 201 (ltA (i4 + 1) (gdI dg (chM cs mn m)) dg))) 48 (aI 6 (fun b => nI (((wkI (chM cs mn m) i4).1) b)))) 49 (aI 6 (ltA (i6 + 1) (fun _ => 0) (goI go (chM cs mn m) i4)))) 50 (aI 6 ((wkI (chM cs mn m) i4).2)))) (ceq_hs (ceq_hs (ceq_hs (ceq_hs (ceq_hs (ceq_hs (fun _ => ceq_r) ceq_r) ceq_r) ceq_r) ceq_r) (ceq_I fun k hk => congrFun (ltA_up i6 (fun _ => 0) (goI go (chM cs mn m) i4) rfl) k)) ceq_r) ?_
        show GW X 74 [some (.ref 40), some (.int (nI m)), some (.int (nI nn)), some (.int (nI (i4 + 1))), some (.int (chM cs mn m i4)), some (.int (nI (i6 + 1))), none, none] [] (hs (hs (hs (hs (hs (hs h 40 (oB 5 [.int thr, .int (nI rc), .ref 41, .ref 42, .ref 43, .int (nI mc), .ref 44, .ref 45, .int tch, .int frs, .ref 46, .ref 47, .int (nI nn), .ref 48, .ref 49, .ref 50, .ref 51, .ref 56])) 46 (aI 201 (ltA (i4 + 1) (codI (chM cs mn m)) co))) 47 (aI 201 (ltA (i4 + 1) (gdI dg (chM cs mn m)) dg))) 48 (aI 6 (fun b => nI (((wkI (chM cs mn m) i4).1) b)))) 49 (aI 6 (ltA (i6 + 1) (fun _ => 0) (goI go (chM cs mn m) i4)))) 50 (aI 6 ((wkI (chM cs mn m) i4).2))) n 0 0
        refine g_cv (ihi6 (trivial)) rfl rfl
      · intro IN8
        refine g_iload hX dX5_walkChanges_74 rfl ?_
        refine g_bipush (v := (nI 6)) hX dX5_walkChanges_76 (by decide) ?_
        refine g_icmp_ge (tgt := 95) hX dX5_walkChanges_78 (by decide) (fun _ => ?_) (fun c => absurd (by decide) c)
        refine g_heq (h' := (hs (hs (hs (hs (hs (hs h 40 (oB 5 [.int thr, .int (nI rc), .ref 41, .ref 42, .ref 43, .int (nI mc), .ref 44, .ref 45, .int tch, .int frs, .ref 46, .ref 47, .int (nI nn), .ref 48, .ref 49, .ref 50, .ref 51, .ref 56])) 46 (aI 201 (ltA (i4 + 1) (codI (chM cs mn m)) co))) 47 (aI 201 (ltA (i4 + 1) (gdI dg (chM cs mn m)) dg))) 48 (aI 6 (fun b => nI (((wkI (chM cs mn m) i4).1) b)))) 49 (aI 6 (fun _ => 0))) 50 (aI 6 ((wkI (chM cs mn m) i4).2)))) (ceq_hs (ceq_hs (ceq_hs (ceq_hs (ceq_hs (ceq_hs (fun _ => ceq_r) ceq_r) ceq_r) ceq_r) ceq_r) (ceq_I fun k hk => ltA_N hk)) ceq_r) ?_
        show GW X 95 [some (.ref 40), some (.int (nI m)), some (.int (nI nn)), some (.int (nI (i4 + 1))), some (.int (chM cs mn m i4)), some (.int (nI 6)), none, none] [] (hs (hs (hs (hs (hs (hs h 40 (oB 5 [.int thr, .int (nI rc), .ref 41, .ref 42, .ref 43, .int (nI mc), .ref 44, .ref 45, .int tch, .int frs, .ref 46, .ref 47, .int (nI nn), .ref 48, .ref 49, .ref 50, .ref 51, .ref 56])) 46 (aI 201 (ltA (i4 + 1) (codI (chM cs mn m)) co))) 47 (aI 201 (ltA (i4 + 1) (gdI dg (chM cs mn m)) dg))) 48 (aI 6 (fun b => nI (((wkI (chM cs mn m) i4).1) b)))) 49 (aI 6 (fun _ => 0))) 50 (aI 6 ((wkI (chM cs mn m) i4).2))) n 0 0
        refine g_aload_n hX dX5_walkChanges_95 rfl rfl ?_
        refine g_getf hX dX5_walkChanges_96 fl_X5_28 ((hs_ne (by omega)).trans ((hs_ne (by omega)).trans ((hs_ne (by omega)).trans ((hs_ne (by omega)).trans ((hs_ne (by omega)).trans (hs_eq _ _ _)))))) rfl ?_
        refine g_iload_n hX dX5_walkChanges_99 rfl rfl ?_
        refine g_iconst (v := (nI 0)) hX dX5_walkChanges_100 (by decide) ?_
        refine g_iastore hX dX5_walkChanges_101 ((hs_ne (by omega)).trans ((hs_ne (by omega)).trans ((hs_ne (by omega)).trans (hs_eq _ _ _)))) (i4 + 1) (by omega) rfl (by omega) ?_
        refine g_iconst (v := (nI 0)) hX dX5_walkChanges_102 (by decide) ?_
        refine g_istore hX dX5_walkChanges_103 (Nat.le_of_ble_eq_true rfl) rfl ?_
        refine g_cg (h' := (hs (hs (hs (hs (hs (hs h 40 (oB 5 [.int thr, .int (nI rc), .ref 41, .ref 42, .ref 43, .int (nI mc), .ref 44, .ref 45, .int tch, .int frs, .ref 46, .ref 47, .int (nI nn), .ref 48, .ref 49, .ref 50, .ref 51, .ref 56])) 46 (aI 201 (ltA (i4 + 1) (codI (chM cs mn m)) co))) 47 (aI 201 (upd (ltA (i4 + 1) (gdI dg (chM cs mn m)) dg) (i4 + 1) (nI 0)))) 48 (aI 6 (fun b => nI (((wkI (chM cs mn m) i4).1) b)))) 49 (aI 6 (fun _ => 0))) 50 (aI 6 ((wkI (chM cs mn m) i4).2)))) rfl (by rw [hs_cm (k := 47) (j := 50) _ _ _ (by omega), hs_cm (k := 47) (j := 49) _ _ _ (by omega), hs_cm (k := 47) (j := 48) _ _ _ (by omega), hs_hs (k := 47)]) ?_
        have hA9 := swI_ok (c := (chM cs mn m i4)) (wkI_ok (chM cs mn m) i4)
        refine g_cg (L' := [some (.ref 40), some (.int (nI m)), some (.int (nI nn)), some (.int (nI (i4 + 1))), some (.int (chM cs mn m i4)), some (.int (nI 0)), none, none]) (h' := (hs (hs (hs (hs (hs (hs h 40 (oB 5 [.int thr, .int (nI rc), .ref 41, .ref 42, .ref 43, .int (nI mc), .ref 44, .ref 45, .int tch, .int frs, .ref 46, .ref 47, .int (nI nn), .ref 48, .ref 49, .ref 50, .ref 51, .ref 56])) 46 (aI 201 (ltA (i4 + 1) (codI (chM cs mn m)) co))) 47 (aI 201 (upd (ltA (i4 + 1) (gdI dg (chM cs mn m)) dg) (i4 + 1) (nI 0)))) 48 (aI 6 (fun b => nI ((((wkI (chM cs mn m) i4).1, (fun (_ : Nat) => (0 : Int32))).1) b)))) 49 (aI 6 (((wkI (chM cs mn m) i4).1, (fun (_ : Nat) => (0 : Int32))).2))) 50 (aI 6 ((wkI (chM cs mn m) i4).2)))) (by rfl) (by rfl) ?_
        refine g_for (P := fun (i : Nat) (s : (Nat → Nat) × (Nat → Int32)) => GW X 105 [some (.ref 40), some (.int (nI m)), some (.int (nI nn)), some (.int (nI (i4 + 1))), some (.int (chM cs mn m i4)), some (.int (nI i)), none, none] [] (hs (hs (hs (hs (hs (hs h 40 (oB 5 [.int thr, .int (nI rc), .ref 41, .ref 42, .ref 43, .int (nI mc), .ref 44, .ref 45, .int tch, .int frs, .ref 46, .ref 47, .int (nI nn), .ref 48, .ref 49, .ref 50, .ref 51, .ref 56])) 46 (aI 201 (ltA (i4 + 1) (codI (chM cs mn m)) co))) 47 (aI 201 (upd (ltA (i4 + 1) (gdI dg (chM cs mn m)) dg) (i4 + 1) (nI 0)))) 48 (aI 6 (fun b => nI (s.1 b)))) 49 (aI 6 s.2)) 50 (aI 6 ((wkI (chM cs mn m) i4).2))) n 0 0) (step := fun i s => swP (chM cs mn m i4) i s) 5 ((wkI (chM cs mn m) i4).1, (fun (_ : Nat) => (0 : Int32))) ?_ ?_
        · intro i9 ⟨ps10, gs10⟩ hi9 es10 ihi9
          have ihi9 : GW X 105 [some (.ref 40), some (.int (nI m)), some (.int (nI nn)), some (.int (nI (i4 + 1))), some (.int (chM cs mn m i4)), some (.int (nI (i9 + 1))), none, none] [] (hs (hs (hs (hs (hs (hs h 40 (oB 5 [.int thr, .int (nI rc), .ref 41, .ref 42, .ref 43, .int (nI mc), .ref 44, .ref 45, .int tch, .int frs, .ref 46, .ref 47, .int (nI nn), .ref 48, .ref 49, .ref 50, .ref 51, .ref 56])) 46 (aI 201 (ltA (i4 + 1) (codI (chM cs mn m)) co))) 47 (aI 201 (upd (ltA (i4 + 1) (gdI dg (chM cs mn m)) dg) (i4 + 1) (nI 0)))) 48 (aI 6 (fun b => nI (((swP (chM cs mn m i4) i9 (ps10, gs10)).1) b)))) 49 (aI 6 ((swP (chM cs mn m i4) i9 (ps10, gs10)).2))) 50 (aI 6 ((wkI (chM cs mn m) i4).2))) n 0 0 := ihi9
          have hp9 : vplc ps10 := by
            have q := hA9 i9 (by omega)
            rw [← es10] at q
            exact q
          have hpa9 := hp9 i9 (by omega)
          have hpb9 := hp9 (i9 + 1) (by omega)
          refine g_iload hX dX5_walkChanges_105 rfl ?_
          refine g_iconst (v := (nI 5)) hX dX5_walkChanges_107 (by decide) ?_
          refine g_icmp_geN (tgt := 186) hX dX5_walkChanges_108 (by decide) (by omega) (fun c11 => absurd c11 (by omega)) (fun c11 => ?_)
          refine g_iload hX dX5_walkChanges_111 rfl ?_
          refine g_iload hX dX5_walkChanges_113 rfl ?_
          refine g_ishr hX dX5_walkChanges_115 ?_
          refine g_iconst (v := (nI 1)) hX dX5_walkChanges_116 (by decide) ?_
          refine g_iand hX dX5_walkChanges_117 ?_
          refine g_if_ne (tgt := 124) hX dX5_walkChanges_118 (by decide) (fun c12 => ?_) (fun c12 => ?_)
          · refine g_aload_n hX dX5_walkChanges_124 rfl rfl ?_
            refine g_getf hX dX5_walkChanges_125 fl_X5_31 ((hs_ne (by omega)).trans ((hs_ne (by omega)).trans ((hs_ne (by omega)).trans ((hs_ne (by omega)).trans ((hs_ne (by omega)).trans (hs_eq _ _ _)))))) rfl ?_
            refine g_iload hX dX5_walkChanges_128 rfl ?_
            refine g_iaload hX dX5_walkChanges_130 ((hs_ne (by omega)).trans ((hs_ne (by omega)).trans (hs_eq _ _ _))) (i9) (by omega) rfl (by omega) ?_
            refine g_istore hX dX5_walkChanges_131 (Nat.le_of_ble_eq_true rfl) rfl ?_
            refine g_aload_n hX dX5_walkChanges_133 rfl rfl ?_
            refine g_getf hX dX5_walkChanges_134 fl_X5_31 ((hs_ne (by omega)).trans ((hs_ne (by omega)).trans ((hs_ne (by omega)).trans ((hs_ne (by omega)).trans ((hs_ne (by omega)).trans (hs_eq _ _ _)))))) rfl ?_
            refine g_iload hX dX5_walkChanges_137 rfl ?_
            refine g_iconst (v := (nI 1)) hX dX5_walkChanges_139 (by decide) ?_
            refine g_iaddN hX dX5_walkChanges_140 ?_
            refine g_iaload hX dX5_walkChanges_141 ((hs_ne (by omega)).trans ((hs_ne (by omega)).trans (hs_eq _ _ _))) (i9 + 1) (by omega) rfl (by omega) ?_
            refine g_istore hX dX5_walkChanges_142 (Nat.le_of_ble_eq_true rfl) rfl ?_
            refine g_aload_n hX dX5_walkChanges_144 rfl rfl ?_
            refine g_getf hX dX5_walkChanges_145 fl_X5_31 ((hs_ne (by omega)).trans ((hs_ne (by omega)).trans ((hs_ne (by omega)).trans ((hs_ne (by omega)).trans ((hs_ne (by omega)).trans (hs_eq _ _ _)))))) rfl ?_
            refine g_iload hX dX5_walkChanges_148 rfl ?_
            refine g_iload hX dX5_walkChanges_150 rfl ?_
            refine g_iastore hX dX5_walkChanges_152 ((hs_ne (by omega)).trans ((hs_ne (by omega)).trans (hs_eq _ _ _))) (i9) (by omega) rfl (by omega) ?_
            refine g_aload_n hX dX5_walkChanges_153 rfl rfl ?_
            refine g_getf hX dX5_walkChanges_154 fl_X5_31 ((hs_ne (by omega)).trans ((hs_ne (by omega)).trans ((hs_ne (by omega)).trans ((hs_ne (by omega)).trans ((hs_ne (by omega)).trans ((hs_ne (by omega)).trans (hs_eq _ _ _))))))) rfl ?_
            refine g_iload hX dX5_walkChanges_157 rfl ?_
            refine g_iconst (v := (nI 1)) hX dX5_walkChanges_159 (by decide) ?_
            refine g_iaddN hX dX5_walkChanges_160 ?_
            refine g_iload hX dX5_walkChanges_161 rfl ?_
            refine g_iastore hX dX5_walkChanges_163 (hs_eq _ _ _) (i9 + 1) (by omega) rfl (by omega) ?_
            refine g_cg rfl hs_hs ?_
            refine g_aload_n hX dX5_walkChanges_164 rfl rfl ?_
            refine g_getf hX dX5_walkChanges_165 fl_X5_34 ((hs_ne (by omega)).trans ((hs_ne (by omega)).trans ((hs_ne (by omega)).trans ((hs_ne (by omega)).trans ((hs_ne (by omega)).trans ((hs_ne (by omega)).trans (hs_eq _ _ _))))))) rfl ?_
            refine g_iload hX dX5_walkChanges_168 rfl ?_
            refine g_iconst (v := (nI 1)) hX dX5_walkChanges_170 (by decide) ?_
            refine g_iastore hX dX5_walkChanges_171 ((hs_ne (by omega)).trans ((hs_ne (by omega)).trans (hs_eq _ _ _))) (ps10 i9) (by omega) rfl (by omega) ?_
            refine g_aload_n hX dX5_walkChanges_172 rfl rfl ?_
            refine g_getf hX dX5_walkChanges_173 fl_X5_34 ((hs_ne (by omega)).trans ((hs_ne (by omega)).trans ((hs_ne (by omega)).trans ((hs_ne (by omega)).trans ((hs_ne (by omega)).trans ((hs_ne (by omega)).trans ((hs_ne (by omega)).trans (hs_eq _ _ _)))))))) rfl ?_
            refine g_iload hX dX5_walkChanges_176 rfl ?_
            refine g_iconst (v := (-1)) hX dX5_walkChanges_178 (by decide) ?_
            refine g_iastore hX dX5_walkChanges_179 (hs_eq _ _ _) (ps10 (i9 + 1)) (by omega) rfl (by omega) ?_
            refine g_cg rfl hs_hs ?_
            refine g_iinc (v := (nI (i9 + 1))) hX dX5_walkChanges_180 rfl rfl (gn_inc _ _) ?_
            refine g_goto (tgt := 105) hX dX5_walkChanges_183 (by decide) ?_
            refine g_kill 6 ?_
            refine g_kill 7 ?_
            refine g_cg (h' := (hs (hs (hs (hs (hs (hs h 40 (oB 5 [.int thr, .int (nI rc), .ref 41, .ref 42, .ref 43, .int (nI mc), .ref 44, .ref 45, .int tch, .int frs, .ref 46, .ref 47, .int (nI nn), .ref 48, .ref 49, .ref 50, .ref 51, .ref 56])) 46 (aI 201 (ltA (i4 + 1) (codI (chM cs mn m)) co))) 47 (aI 201 (upd (ltA (i4 + 1) (gdI dg (chM cs mn m)) dg) (i4 + 1) (nI 0)))) 48 (aI 6 (upd (upd (fun b => nI (ps10 b)) i9 (nI (ps10 (i9 + 1)))) (i9 + 1) (nI (ps10 i9))))) 49 (aI 6 (upd (upd gs10 (ps10 i9) (nI 1)) (ps10 (i9 + 1)) (-1)))) 50 (aI 6 ((wkI (chM cs mn m) i4).2)))) rfl (by rw [hs_cm (k := 48) (j := 50) _ _ _ (by omega), hs_cm (k := 48) (j := 49) _ _ _ (by omega), hs_hs (k := 48), hs_cm (k := 49) (j := 50) _ _ _ (by omega), hs_hs (k := 49)]) ?_
            refine g_heq (h' := (hs (hs (hs (hs (hs (hs h 40 (oB 5 [.int thr, .int (nI rc), .ref 41, .ref 42, .ref 43, .int (nI mc), .ref 44, .ref 45, .int tch, .int frs, .ref 46, .ref 47, .int (nI nn), .ref 48, .ref 49, .ref 50, .ref 51, .ref 56])) 46 (aI 201 (ltA (i4 + 1) (codI (chM cs mn m)) co))) 47 (aI 201 (upd (ltA (i4 + 1) (gdI dg (chM cs mn m)) dg) (i4 + 1) (nI 0)))) 48 (aI 6 (fun b => nI ((fun x => if x = i9 + 1 then ps10 i9 else if x = i9 then ps10 (i9 + 1) else ps10 x) b)))) 49 (aI 6 (upd (upd gs10 (ps10 i9) (nI 1)) (ps10 (i9 + 1)) (-1)))) 50 (aI 6 ((wkI (chM cs mn m) i4).2)))) (ceq_hs (ceq_hs (ceq_hs (ceq_hs (ceq_hs (ceq_hs (fun _ => ceq_r) ceq_r) ceq_r) ceq_r) (ceq_I fun k hk => sw_pt)) ceq_r) ceq_r) ?_
            show GW X 105 [some (.ref 40), some (.int (nI m)), some (.int (nI nn)), some (.int (nI (i4 + 1))), some (.int (chM cs mn m i4)), some (.int (nI (i9 + 1))), none, none] [] (hs (hs (hs (hs (hs (hs h 40 (oB 5 [.int thr, .int (nI rc), .ref 41, .ref 42, .ref 43, .int (nI mc), .ref 44, .ref 45, .int tch, .int frs, .ref 46, .ref 47, .int (nI nn), .ref 48, .ref 49, .ref 50, .ref 51, .ref 56])) 46 (aI 201 (ltA (i4 + 1) (codI (chM cs mn m)) co))) 47 (aI 201 (upd (ltA (i4 + 1) (gdI dg (chM cs mn m)) dg) (i4 + 1) (nI 0)))) 48 (aI 6 (fun b => nI ((fun x => if x = i9 + 1 then ps10 i9 else if x = i9 then ps10 (i9 + 1) else ps10 x) b)))) 49 (aI 6 (upd (upd gs10 (ps10 i9) (nI 1)) (ps10 (i9 + 1)) (-1)))) 50 (aI 6 ((wkI (chM cs mn m) i4).2))) n 0 0
            refine g_cv ihi9 rfl (by rw [show swP (chM cs mn m i4) i9 _ = _ from if_neg c12])
          · refine g_goto (tgt := 180) hX dX5_walkChanges_121 (by decide) ?_
            refine g_iinc (v := (nI (i9 + 1))) hX dX5_walkChanges_180 rfl rfl (gn_inc _ _) ?_
            refine g_goto (tgt := 105) hX dX5_walkChanges_183 (by decide) ?_
            refine g_cv ihi9 rfl (by rw [show swP (chM cs mn m i4) i9 _ = _ from if_pos c12])
        · refine g_iload hX dX5_walkChanges_105 rfl ?_
          refine g_iconst (v := (nI 5)) hX dX5_walkChanges_107 (by decide) ?_
          refine g_icmp_ge (tgt := 186) hX dX5_walkChanges_108 (by decide) (fun _ => ?_) (fun c => absurd (by decide) c)
          refine g_iconst (v := (nI 0)) hX dX5_walkChanges_186 (by decide) ?_
          refine g_istore hX dX5_walkChanges_187 (Nat.le_of_ble_eq_true rfl) rfl ?_
          refine g_cg (L' := [some (.ref 40), some (.int (nI m)), some (.int (nI nn)), some (.int (nI (i4 + 1))), some (.int (chM cs mn m i4)), some (.int (nI 0)), none, none]) (h' := (hs (hs (hs (hs (hs (hs h 40 (oB 5 [.int thr, .int (nI rc), .ref 41, .ref 42, .ref 43, .int (nI mc), .ref 44, .ref 45, .int tch, .int frs, .ref 46, .ref 47, .int (nI nn), .ref 48, .ref 49, .ref 50, .ref 51, .ref 56])) 46 (aI 201 (ltA (i4 + 1) (codI (chM cs mn m)) co))) 47 (aI 201 (upd (ltA (i4 + 1) (gdI dg (chM cs mn m)) dg) (i4 + 1) 0))) 48 (aI 6 (fun b => nI (((itr (fun i s => swP (chM cs mn m i4) i s) 5 ((wkI (chM cs mn m) i4).1, (fun (_ : Nat) => (0 : Int32)))).1) b)))) 49 (aI 6 ((itr (fun i s => swP (chM cs mn m i4) i s) 5 ((wkI (chM cs mn m) i4).1, (fun (_ : Nat) => (0 : Int32)))).2))) 50 (aI 6 (ltA 0 ((itr (fun i s => swP (chM cs mn m i4) i s) 5 ((wkI (chM cs mn m) i4).1, (fun (_ : Nat) => (0 : Int32)))).2) (wkI (chM cs mn m) i4).2)))) (by rfl) (by rw [ltA_0]; rfl) ?_
          refine g_for (P := fun (i : Nat) (s : Int32) => GW X 189 [some (.ref 40), some (.int (nI m)), some (.int (nI nn)), some (.int (nI (i4 + 1))), some (.int (chM cs mn m i4)), some (.int (nI i)), none, none] [] (hs (hs (hs (hs (hs (hs h 40 (oB 5 [.int thr, .int (nI rc), .ref 41, .ref 42, .ref 43, .int (nI mc), .ref 44, .ref 45, .int tch, .int frs, .ref 46, .ref 47, .int (nI nn), .ref 48, .ref 49, .ref 50, .ref 51, .ref 56])) 46 (aI 201 (ltA (i4 + 1) (codI (chM cs mn m)) co))) 47 (aI 201 (upd (ltA (i4 + 1) (gdI dg (chM cs mn m)) dg) (i4 + 1) s))) 48 (aI 6 (fun b => nI (((itr (fun i s => swP (chM cs mn m i4) i s) 5 ((wkI (chM cs mn m) i4).1, (fun (_ : Nat) => (0 : Int32)))).1) b)))) 49 (aI 6 ((itr (fun i s => swP (chM cs mn m i4) i s) 5 ((wkI (chM cs mn m) i4).1, (fun (_ : Nat) => (0 : Int32)))).2))) 50 (aI 6 (ltA i ((itr (fun i s => swP (chM cs mn m i4) i s) 5 ((wkI (chM cs mn m) i4).1, (fun (_ : Nat) => (0 : Int32)))).2) (wkI (chM cs mn m) i4).2))) n 0 0) (step := fun i s => dgP ((itr (fun i s => swP (chM cs mn m i4) i s) 5 ((wkI (chM cs mn m) i4).1, (fun (_ : Nat) => (0 : Int32)))).2) (wkI (chM cs mn m) i4).2 i s) 6 0 ?_ ?_
          · intro i13 s14 hi13 es14 ihi13
            have ihi13 : GW X 189 [some (.ref 40), some (.int (nI m)), some (.int (nI nn)), some (.int (nI (i4 + 1))), some (.int (chM cs mn m i4)), some (.int (nI (i13 + 1))), none, none] [] (hs (hs (hs (hs (hs (hs h 40 (oB 5 [.int thr, .int (nI rc), .ref 41, .ref 42, .ref 43, .int (nI mc), .ref 44, .ref 45, .int tch, .int frs, .ref 46, .ref 47, .int (nI nn), .ref 48, .ref 49, .ref 50, .ref 51, .ref 56])) 46 (aI 201 (ltA (i4 + 1) (codI (chM cs mn m)) co))) 47 (aI 201 (upd (ltA (i4 + 1) (gdI dg (chM cs mn m)) dg) (i4 + 1) (dgP ((itr (fun i s => swP (chM cs mn m i4) i s) 5 ((wkI (chM cs mn m) i4).1, (fun (_ : Nat) => (0 : Int32)))).2) (wkI (chM cs mn m) i4).2 i13 s14)))) 48 (aI 6 (fun b => nI (((itr (fun i s => swP (chM cs mn m i4) i s) 5 ((wkI (chM cs mn m) i4).1, (fun (_ : Nat) => (0 : Int32)))).1) b)))) 49 (aI 6 ((itr (fun i s => swP (chM cs mn m i4) i s) 5 ((wkI (chM cs mn m) i4).1, (fun (_ : Nat) => (0 : Int32)))).2))) 50 (aI 6 (ltA (i13 + 1) ((itr (fun i s => swP (chM cs mn m i4) i s) 5 ((wkI (chM cs mn m) i4).1, (fun (_ : Nat) => (0 : Int32)))).2) (wkI (chM cs mn m) i4).2))) n 0 0 := ihi13
            refine g_iload hX dX5_walkChanges_189 rfl ?_
            refine g_bipush (v := (nI 6)) hX dX5_walkChanges_191 (by decide) ?_
            refine g_icmp_geN (tgt := 247) hX dX5_walkChanges_193 (by decide) (by omega) (fun c15 => absurd c15 (by omega)) (fun c15 => ?_)
            refine g_aload_n hX dX5_walkChanges_196 rfl rfl ?_
            refine g_getf hX dX5_walkChanges_197 fl_X5_34 ((hs_ne (by omega)).trans ((hs_ne (by omega)).trans ((hs_ne (by omega)).trans ((hs_ne (by omega)).trans ((hs_ne (by omega)).trans (hs_eq _ _ _)))))) rfl ?_
            refine g_iload hX dX5_walkChanges_200 rfl ?_
            refine g_iaload hX dX5_walkChanges_202 ((hs_ne (by omega)).trans (hs_eq _ _ _)) (i13) (by omega) rfl (by omega) ?_
            refine g_aload_n hX dX5_walkChanges_203 rfl rfl ?_
            refine g_getf hX dX5_walkChanges_204 fl_X5_37 ((hs_ne (by omega)).trans ((hs_ne (by omega)).trans ((hs_ne (by omega)).trans ((hs_ne (by omega)).trans ((hs_ne (by omega)).trans (hs_eq _ _ _)))))) rfl ?_
            refine g_iload hX dX5_walkChanges_207 rfl ?_
            refine g_iaload hX dX5_walkChanges_209 (hs_eq _ _ _) (i13) (by omega) rfl (by omega) ?_
            refine g_top (v' := .int ((wkI (chM cs mn m) i4).2 i13)) (congrArg Value.int (ltA_at _ _ _)) ?_
            refine g_imul hX dX5_walkChanges_210 ?_
            refine g_if_ge (tgt := 227) hX dX5_walkChanges_211 (by decide) (fun c16 => ?_) (fun c16 => ?_)
            · refine g_aload_n hX dX5_walkChanges_227 rfl rfl ?_
              refine g_getf hX dX5_walkChanges_228 fl_X5_37 ((hs_ne (by omega)).trans ((hs_ne (by omega)).trans ((hs_ne (by omega)).trans ((hs_ne (by omega)).trans ((hs_ne (by omega)).trans (hs_eq _ _ _)))))) rfl ?_
              refine g_iload hX dX5_walkChanges_231 rfl ?_
              refine g_aload_n hX dX5_walkChanges_233 rfl rfl ?_
              refine g_getf hX dX5_walkChanges_234 fl_X5_34 ((hs_ne (by omega)).trans ((hs_ne (by omega)).trans ((hs_ne (by omega)).trans ((hs_ne (by omega)).trans ((hs_ne (by omega)).trans (hs_eq _ _ _)))))) rfl ?_
              refine g_iload hX dX5_walkChanges_237 rfl ?_
              refine g_iaload hX dX5_walkChanges_239 ((hs_ne (by omega)).trans (hs_eq _ _ _)) (i13) (by omega) rfl (by omega) ?_
              refine g_iastore hX dX5_walkChanges_240 (hs_eq _ _ _) (i13) (by omega) rfl (by omega) ?_
              refine g_cg rfl hs_hs ?_
              refine g_iinc (v := (nI (i13 + 1))) hX dX5_walkChanges_241 rfl rfl (gn_inc _ _) ?_
              refine g_goto (tgt := 189) hX dX5_walkChanges_244 (by decide) ?_
              refine g_heq (h' := (hs (hs (hs (hs (hs (hs h 40 (oB 5 [.int thr, .int (nI rc), .ref 41, .ref 42, .ref 43, .int (nI mc), .ref 44, .ref 45, .int tch, .int frs, .ref 46, .ref 47, .int (nI nn), .ref 48, .ref 49, .ref 50, .ref 51, .ref 56])) 46 (aI 201 (ltA (i4 + 1) (codI (chM cs mn m)) co))) 47 (aI 201 (upd (ltA (i4 + 1) (gdI dg (chM cs mn m)) dg) (i4 + 1) s14))) 48 (aI 6 (fun b => nI (((itr (fun i s => swP (chM cs mn m i4) i s) 5 ((wkI (chM cs mn m) i4).1, (fun (_ : Nat) => (0 : Int32)))).1) b)))) 49 (aI 6 ((itr (fun i s => swP (chM cs mn m i4) i s) 5 ((wkI (chM cs mn m) i4).1, (fun (_ : Nat) => (0 : Int32)))).2))) 50 (aI 6 (ltA (i13 + 1) ((itr (fun i s => swP (chM cs mn m i4) i s) 5 ((wkI (chM cs mn m) i4).1, (fun (_ : Nat) => (0 : Int32)))).2) (wkI (chM cs mn m) i4).2)))) (ceq_hs (ceq_hs (ceq_hs (ceq_hs (ceq_hs (ceq_hs (fun _ => ceq_r) ceq_r) ceq_r) ceq_r) ceq_r) ceq_r) (ceq_I fun k hk => congrFun (ltA_up i13 ((itr (fun i s => swP (chM cs mn m i4) i s) 5 ((wkI (chM cs mn m) i4).1, (fun (_ : Nat) => (0 : Int32)))).2) (wkI (chM cs mn m) i4).2 rfl) k)) ?_
              show GW X 189 [some (.ref 40), some (.int (nI m)), some (.int (nI nn)), some (.int (nI (i4 + 1))), some (.int (chM cs mn m i4)), some (.int (nI (i13 + 1))), none, none] [] (hs (hs (hs (hs (hs (hs h 40 (oB 5 [.int thr, .int (nI rc), .ref 41, .ref 42, .ref 43, .int (nI mc), .ref 44, .ref 45, .int tch, .int frs, .ref 46, .ref 47, .int (nI nn), .ref 48, .ref 49, .ref 50, .ref 51, .ref 56])) 46 (aI 201 (ltA (i4 + 1) (codI (chM cs mn m)) co))) 47 (aI 201 (upd (ltA (i4 + 1) (gdI dg (chM cs mn m)) dg) (i4 + 1) s14))) 48 (aI 6 (fun b => nI (((itr (fun i s => swP (chM cs mn m i4) i s) 5 ((wkI (chM cs mn m) i4).1, (fun (_ : Nat) => (0 : Int32)))).1) b)))) 49 (aI 6 ((itr (fun i s => swP (chM cs mn m i4) i s) 5 ((wkI (chM cs mn m) i4).1, (fun (_ : Nat) => (0 : Int32)))).2))) 50 (aI 6 (ltA (i13 + 1) ((itr (fun i s => swP (chM cs mn m i4) i s) 5 ((wkI (chM cs mn m) i4).1, (fun (_ : Nat) => (0 : Int32)))).2) (wkI (chM cs mn m) i4).2))) n 0 0
              refine g_cv ihi13 rfl (by rw [show dgP ((itr (fun i s => swP (chM cs mn m i4) i s) 5 ((wkI (chM cs mn m) i4).1, (fun (_ : Nat) => (0 : Int32)))).2) (wkI (chM cs mn m) i4).2 i13 _ = _ from if_neg (gn_ile.mpr c16)])
            · refine g_aload_n hX dX5_walkChanges_214 rfl rfl ?_
              refine g_getf hX dX5_walkChanges_215 fl_X5_28 ((hs_ne (by omega)).trans ((hs_ne (by omega)).trans ((hs_ne (by omega)).trans ((hs_ne (by omega)).trans ((hs_ne (by omega)).trans (hs_eq _ _ _)))))) rfl ?_
              refine g_iload_n hX dX5_walkChanges_218 rfl rfl ?_
              refine g_dup2 hX dX5_walkChanges_219 rfl rfl ?_
              refine g_iaload hX dX5_walkChanges_220 ((hs_ne (by omega)).trans ((hs_ne (by omega)).trans ((hs_ne (by omega)).trans (hs_eq _ _ _)))) (i4 + 1) (by omega) rfl (by omega) ?_
              refine g_top (v' := .int s14) (congrArg Value.int pk_us) ?_
              refine g_iconst (v := (nI 1)) hX dX5_walkChanges_221 (by decide) ?_
              refine g_iload hX dX5_walkChanges_222 rfl ?_
              refine g_ishl hX dX5_walkChanges_224 ?_
              refine g_ior hX dX5_walkChanges_225 ?_
              refine g_iastore hX dX5_walkChanges_226 ((hs_ne (by omega)).trans ((hs_ne (by omega)).trans ((hs_ne (by omega)).trans (hs_eq _ _ _)))) (i4 + 1) (by omega) rfl (by omega) ?_
              refine g_aload_n hX dX5_walkChanges_227 rfl rfl ?_
              refine g_getf hX dX5_walkChanges_228 fl_X5_37 ((hs_ne (by omega)).trans ((hs_ne (by omega)).trans ((hs_ne (by omega)).trans ((hs_ne (by omega)).trans ((hs_ne (by omega)).trans ((hs_ne (by omega)).trans (hs_eq _ _ _))))))) rfl ?_
              refine g_iload hX dX5_walkChanges_231 rfl ?_
              refine g_aload_n hX dX5_walkChanges_233 rfl rfl ?_
              refine g_getf hX dX5_walkChanges_234 fl_X5_34 ((hs_ne (by omega)).trans ((hs_ne (by omega)).trans ((hs_ne (by omega)).trans ((hs_ne (by omega)).trans ((hs_ne (by omega)).trans ((hs_ne (by omega)).trans (hs_eq _ _ _))))))) rfl ?_
              refine g_iload hX dX5_walkChanges_237 rfl ?_
              refine g_iaload hX dX5_walkChanges_239 ((hs_ne (by omega)).trans ((hs_ne (by omega)).trans (hs_eq _ _ _))) (i13) (by omega) rfl (by omega) ?_
              refine g_iastore hX dX5_walkChanges_240 ((hs_ne (by omega)).trans (hs_eq _ _ _)) (i13) (by omega) rfl (by omega) ?_
              refine g_iinc (v := (nI (i13 + 1))) hX dX5_walkChanges_241 rfl rfl (gn_inc _ _) ?_
              refine g_goto (tgt := 189) hX dX5_walkChanges_244 (by decide) ?_
              refine g_cg (h' := (hs (hs (hs (hs (hs (hs h 40 (oB 5 [.int thr, .int (nI rc), .ref 41, .ref 42, .ref 43, .int (nI mc), .ref 44, .ref 45, .int tch, .int frs, .ref 46, .ref 47, .int (nI nn), .ref 48, .ref 49, .ref 50, .ref 51, .ref 56])) 46 (aI 201 (ltA (i4 + 1) (codI (chM cs mn m)) co))) 47 (aI 201 (upd (upd (ltA (i4 + 1) (gdI dg (chM cs mn m)) dg) (i4 + 1) s14) (i4 + 1) (s14 ||| ((nI 1) <<< ((nI i13) &&& 31)))))) 48 (aI 6 (fun b => nI (((itr (fun i s => swP (chM cs mn m i4) i s) 5 ((wkI (chM cs mn m) i4).1, (fun (_ : Nat) => (0 : Int32)))).1) b)))) 49 (aI 6 ((itr (fun i s => swP (chM cs mn m i4) i s) 5 ((wkI (chM cs mn m) i4).1, (fun (_ : Nat) => (0 : Int32)))).2))) 50 (aI 6 (upd (ltA i13 ((itr (fun i s => swP (chM cs mn m i4) i s) 5 ((wkI (chM cs mn m) i4).1, (fun (_ : Nat) => (0 : Int32)))).2) (wkI (chM cs mn m) i4).2) i13 (((itr (fun i s => swP (chM cs mn m i4) i s) 5 ((wkI (chM cs mn m) i4).1, (fun (_ : Nat) => (0 : Int32)))).2) i13))))) rfl (by rw [hs_cm (k := 47) (j := 50) _ _ _ (by omega), hs_cm (k := 47) (j := 49) _ _ _ (by omega), hs_cm (k := 47) (j := 48) _ _ _ (by omega), hs_hs (k := 47), hs_hs (k := 50)]) ?_
              refine g_heq (h' := (hs (hs (hs (hs (hs (hs h 40 (oB 5 [.int thr, .int (nI rc), .ref 41, .ref 42, .ref 43, .int (nI mc), .ref 44, .ref 45, .int tch, .int frs, .ref 46, .ref 47, .int (nI nn), .ref 48, .ref 49, .ref 50, .ref 51, .ref 56])) 46 (aI 201 (ltA (i4 + 1) (codI (chM cs mn m)) co))) 47 (aI 201 (upd (ltA (i4 + 1) (gdI dg (chM cs mn m)) dg) (i4 + 1) (s14 ||| ((nI 1) <<< ((nI i13) &&& 31)))))) 48 (aI 6 (fun b => nI (((itr (fun i s => swP (chM cs mn m i4) i s) 5 ((wkI (chM cs mn m) i4).1, (fun (_ : Nat) => (0 : Int32)))).1) b)))) 49 (aI 6 ((itr (fun i s => swP (chM cs mn m i4) i s) 5 ((wkI (chM cs mn m) i4).1, (fun (_ : Nat) => (0 : Int32)))).2))) 50 (aI 6 (ltA (i13 + 1) ((itr (fun i s => swP (chM cs mn m i4) i s) 5 ((wkI (chM cs mn m) i4).1, (fun (_ : Nat) => (0 : Int32)))).2) (wkI (chM cs mn m) i4).2)))) (ceq_hs (ceq_hs (ceq_hs (ceq_hs (ceq_hs (ceq_hs (fun _ => ceq_r) ceq_r) ceq_r) (ceq_I fun k hk => upd_pt)) ceq_r) ceq_r) (ceq_I fun k hk => congrFun (ltA_up i13 ((itr (fun i s => swP (chM cs mn m i4) i s) 5 ((wkI (chM cs mn m) i4).1, (fun (_ : Nat) => (0 : Int32)))).2) (wkI (chM cs mn m) i4).2 rfl) k)) ?_
              show GW X 189 [some (.ref 40), some (.int (nI m)), some (.int (nI nn)), some (.int (nI (i4 + 1))), some (.int (chM cs mn m i4)), some (.int (nI (i13 + 1))), none, none] [] (hs (hs (hs (hs (hs (hs h 40 (oB 5 [.int thr, .int (nI rc), .ref 41, .ref 42, .ref 43, .int (nI mc), .ref 44, .ref 45, .int tch, .int frs, .ref 46, .ref 47, .int (nI nn), .ref 48, .ref 49, .ref 50, .ref 51, .ref 56])) 46 (aI 201 (ltA (i4 + 1) (codI (chM cs mn m)) co))) 47 (aI 201 (upd (ltA (i4 + 1) (gdI dg (chM cs mn m)) dg) (i4 + 1) (s14 ||| ((nI 1) <<< ((nI i13) &&& 31)))))) 48 (aI 6 (fun b => nI (((itr (fun i s => swP (chM cs mn m i4) i s) 5 ((wkI (chM cs mn m) i4).1, (fun (_ : Nat) => (0 : Int32)))).1) b)))) 49 (aI 6 ((itr (fun i s => swP (chM cs mn m i4) i s) 5 ((wkI (chM cs mn m) i4).1, (fun (_ : Nat) => (0 : Int32)))).2))) 50 (aI 6 (ltA (i13 + 1) ((itr (fun i s => swP (chM cs mn m i4) i s) 5 ((wkI (chM cs mn m) i4).1, (fun (_ : Nat) => (0 : Int32)))).2) (wkI (chM cs mn m) i4).2))) n 0 0
              refine g_cv ihi13 rfl (by rw [show dgP ((itr (fun i s => swP (chM cs mn m i4) i s) 5 ((wkI (chM cs mn m) i4).1, (fun (_ : Nat) => (0 : Int32)))).2) (wkI (chM cs mn m) i4).2 i13 _ = _ from if_pos (gn_ilt.mp c16)])
          · refine g_iload hX dX5_walkChanges_189 rfl ?_
            refine g_bipush (v := (nI 6)) hX dX5_walkChanges_191 (by decide) ?_
            refine g_icmp_ge (tgt := 247) hX dX5_walkChanges_193 (by decide) (fun _ => ?_) (fun c => absurd (by decide) c)
            refine g_heq (h' := (hs (hs (hs (hs (hs (hs h 40 (oB 5 [.int thr, .int (nI rc), .ref 41, .ref 42, .ref 43, .int (nI mc), .ref 44, .ref 45, .int tch, .int frs, .ref 46, .ref 47, .int (nI nn), .ref 48, .ref 49, .ref 50, .ref 51, .ref 56])) 46 (aI 201 (ltA (i4 + 1) (codI (chM cs mn m)) co))) 47 (aI 201 (upd (ltA (i4 + 1) (gdI dg (chM cs mn m)) dg) (i4 + 1) (itr (fun i s => dgP ((itr (fun i s => swP (chM cs mn m i4) i s) 5 ((wkI (chM cs mn m) i4).1, (fun (_ : Nat) => (0 : Int32)))).2) (wkI (chM cs mn m) i4).2 i s) 6 0)))) 48 (aI 6 (fun b => nI (((itr (fun i s => swP (chM cs mn m i4) i s) 5 ((wkI (chM cs mn m) i4).1, (fun (_ : Nat) => (0 : Int32)))).1) b)))) 49 (aI 6 ((itr (fun i s => swP (chM cs mn m i4) i s) 5 ((wkI (chM cs mn m) i4).1, (fun (_ : Nat) => (0 : Int32)))).2))) 50 (aI 6 ((itr (fun i s => swP (chM cs mn m i4) i s) 5 ((wkI (chM cs mn m) i4).1, (fun (_ : Nat) => (0 : Int32)))).2)))) (ceq_hs (ceq_hs (ceq_hs (ceq_hs (ceq_hs (ceq_hs (fun _ => ceq_r) ceq_r) ceq_r) ceq_r) ceq_r) ceq_r) (ceq_I fun k hk => ltA_N hk)) ?_
            show GW X 247 [some (.ref 40), some (.int (nI m)), some (.int (nI nn)), some (.int (nI (i4 + 1))), some (.int (chM cs mn m i4)), some (.int (nI 6)), none, none] [] (hs (hs (hs (hs (hs (hs h 40 (oB 5 [.int thr, .int (nI rc), .ref 41, .ref 42, .ref 43, .int (nI mc), .ref 44, .ref 45, .int tch, .int frs, .ref 46, .ref 47, .int (nI nn), .ref 48, .ref 49, .ref 50, .ref 51, .ref 56])) 46 (aI 201 (ltA (i4 + 1) (codI (chM cs mn m)) co))) 47 (aI 201 (upd (ltA (i4 + 1) (gdI dg (chM cs mn m)) dg) (i4 + 1) (itr (fun i s => dgP ((itr (fun i s => swP (chM cs mn m i4) i s) 5 ((wkI (chM cs mn m) i4).1, (fun (_ : Nat) => (0 : Int32)))).2) (wkI (chM cs mn m) i4).2 i s) 6 0)))) 48 (aI 6 (fun b => nI (((itr (fun i s => swP (chM cs mn m i4) i s) 5 ((wkI (chM cs mn m) i4).1, (fun (_ : Nat) => (0 : Int32)))).1) b)))) 49 (aI 6 ((itr (fun i s => swP (chM cs mn m i4) i s) 5 ((wkI (chM cs mn m) i4).1, (fun (_ : Nat) => (0 : Int32)))).2))) 50 (aI 6 ((itr (fun i s => swP (chM cs mn m i4) i s) 5 ((wkI (chM cs mn m) i4).1, (fun (_ : Nat) => (0 : Int32)))).2))) n 0 0
            refine g_aload_n hX dX5_walkChanges_247 rfl rfl ?_
            refine g_getf hX dX5_walkChanges_248 fl_X5_25 ((hs_ne (by omega)).trans ((hs_ne (by omega)).trans ((hs_ne (by omega)).trans ((hs_ne (by omega)).trans ((hs_ne (by omega)).trans (hs_eq _ _ _)))))) rfl ?_
            refine g_iload_n hX dX5_walkChanges_251 rfl rfl ?_
            refine g_aload_n hX dX5_walkChanges_252 rfl rfl ?_
            refine g_callV (As := []) hX dX5_walkChanges_253 cb_X5_code ml_X5_69 im_X5_code se_X5_code rfl rfl ((hs_ne (by omega)).trans ((hs_ne (by omega)).trans ((hs_ne (by omega)).trans ((hs_ne (by omega)).trans ((hs_ne (by omega)).trans (hs_eq _ _ _)))))) ⟨_, rfl, rfl⟩ (kX5_code hst ((hs_ne (by omega)).trans ((hs_ne (by omega)).trans ((hs_ne (by omega)).trans ((hs_ne (by omega)).trans ((hs_ne (by omega)).trans (hs_eq _ _ _)))))) ((hs_ne (by omega)).trans ((hs_ne (by omega)).trans (hs_eq _ _ _)))) (Nat.le_of_ble_eq_true rfl) (Nat.le_of_ble_eq_true rfl) (by omega) (by omega) (Nat.le_of_ble_eq_true rfl) GX.no (pq ?_)
            show GW X 256 [some (.ref 40), some (.int (nI m)), some (.int (nI nn)), some (.int (nI (i4 + 1))), some (.int (chM cs mn m i4)), some (.int (nI 6)), none, none] [.int (nI (codN ((itr (fun i s => swP (chM cs mn m i4) i s) 5 ((wkI (chM cs mn m) i4).1, (fun (_ : Nat) => (0 : Int32)))).1))), .int (nI (i4 + 1)), .ref 46] (hs (hs (hs (hs (hs (hs h 40 (oB 5 [.int thr, .int (nI rc), .ref 41, .ref 42, .ref 43, .int (nI mc), .ref 44, .ref 45, .int tch, .int frs, .ref 46, .ref 47, .int (nI nn), .ref 48, .ref 49, .ref 50, .ref 51, .ref 56])) 46 (aI 201 (ltA (i4 + 1) (codI (chM cs mn m)) co))) 47 (aI 201 (upd (ltA (i4 + 1) (gdI dg (chM cs mn m)) dg) (i4 + 1) (itr (fun i s => dgP ((itr (fun i s => swP (chM cs mn m i4) i s) 5 ((wkI (chM cs mn m) i4).1, (fun (_ : Nat) => (0 : Int32)))).2) (wkI (chM cs mn m) i4).2 i s) 6 0)))) 48 (aI 6 (fun b => nI (((itr (fun i s => swP (chM cs mn m i4) i s) 5 ((wkI (chM cs mn m) i4).1, (fun (_ : Nat) => (0 : Int32)))).1) b)))) 49 (aI 6 ((itr (fun i s => swP (chM cs mn m i4) i s) 5 ((wkI (chM cs mn m) i4).1, (fun (_ : Nat) => (0 : Int32)))).2))) 50 (aI 6 ((itr (fun i s => swP (chM cs mn m i4) i s) 5 ((wkI (chM cs mn m) i4).1, (fun (_ : Nat) => (0 : Int32)))).2))) n 0 0
            refine g_iastore hX dX5_walkChanges_256 ((hs_ne (by omega)).trans ((hs_ne (by omega)).trans ((hs_ne (by omega)).trans ((hs_ne (by omega)).trans (hs_eq _ _ _))))) (i4 + 1) (by omega) rfl (by omega) ?_
            refine g_iinc (v := (nI ((i4 + 1) + 1))) hX dX5_walkChanges_257 rfl rfl (gn_inc _ _) ?_
            refine g_goto (tgt := 44) hX dX5_walkChanges_260 (by decide) ?_
            refine g_kill 4 ?_
            refine g_kill 5 ?_
            refine g_cg (h' := (hs (hs (hs (hs (hs (hs h 40 (oB 5 [.int thr, .int (nI rc), .ref 41, .ref 42, .ref 43, .int (nI mc), .ref 44, .ref 45, .int tch, .int frs, .ref 46, .ref 47, .int (nI nn), .ref 48, .ref 49, .ref 50, .ref 51, .ref 56])) 46 (aI 201 (upd (ltA (i4 + 1) (codI (chM cs mn m)) co) (i4 + 1) (nI (codN ((itr (fun i s => swP (chM cs mn m i4) i s) 5 ((wkI (chM cs mn m) i4).1, (fun (_ : Nat) => (0 : Int32)))).1)))))) 47 (aI 201 (upd (ltA (i4 + 1) (gdI dg (chM cs mn m)) dg) (i4 + 1) (itr (fun i s => dgP ((itr (fun i s => swP (chM cs mn m i4) i s) 5 ((wkI (chM cs mn m) i4).1, (fun (_ : Nat) => (0 : Int32)))).2) (wkI (chM cs mn m) i4).2 i s) 6 0)))) 48 (aI 6 (fun b => nI (((itr (fun i s => swP (chM cs mn m i4) i s) 5 ((wkI (chM cs mn m) i4).1, (fun (_ : Nat) => (0 : Int32)))).1) b)))) 49 (aI 6 ((itr (fun i s => swP (chM cs mn m i4) i s) 5 ((wkI (chM cs mn m) i4).1, (fun (_ : Nat) => (0 : Int32)))).2))) 50 (aI 6 ((itr (fun i s => swP (chM cs mn m i4) i s) 5 ((wkI (chM cs mn m) i4).1, (fun (_ : Nat) => (0 : Int32)))).2)))) rfl (by rw [hs_cm (k := 46) (j := 50) _ _ _ (by omega), hs_cm (k := 46) (j := 49) _ _ _ (by omega), hs_cm (k := 46) (j := 48) _ _ _ (by omega), hs_cm (k := 46) (j := 47) _ _ _ (by omega), hs_hs (k := 46)]) ?_
            refine g_heq (h' := (hs (hs (hs (hs (hs (hs h 40 (oB 5 [.int thr, .int (nI rc), .ref 41, .ref 42, .ref 43, .int (nI mc), .ref 44, .ref 45, .int tch, .int frs, .ref 46, .ref 47, .int (nI nn), .ref 48, .ref 49, .ref 50, .ref 51, .ref 56])) 46 (aI 201 (ltA (i4 + 1 + 1) (codI (chM cs mn m)) co))) 47 (aI 201 (ltA (i4 + 1 + 1) (gdI dg (chM cs mn m)) dg))) 48 (aI 6 (fun b => nI (((itr (fun i s => swP (chM cs mn m i4) i s) 5 ((wkI (chM cs mn m) i4).1, (fun (_ : Nat) => (0 : Int32)))).1) b)))) 49 (aI 6 ((itr (fun i s => swP (chM cs mn m i4) i s) 5 ((wkI (chM cs mn m) i4).1, (fun (_ : Nat) => (0 : Int32)))).2))) 50 (aI 6 ((itr (fun i s => swP (chM cs mn m i4) i s) 5 ((wkI (chM cs mn m) i4).1, (fun (_ : Nat) => (0 : Int32)))).2)))) (ceq_hs (ceq_hs (ceq_hs (ceq_hs (ceq_hs (ceq_hs (fun _ => ceq_r) ceq_r) (ceq_I fun k hk => congrFun (ltA_up (i4 + 1) (codI (chM cs mn m)) co rfl) k)) (ceq_I fun k hk => congrFun (ltA_up (i4 + 1) (gdI dg (chM cs mn m)) dg (show _ = gdI dg (chM cs mn m) (i4 + 1) from (if_neg (Nat.succ_ne_zero i4)).symm)) k)) ceq_r) ceq_r) ceq_r) ?_
            show GW X 44 [some (.ref 40), some (.int (nI m)), some (.int (nI nn)), some (.int (nI ((i4 + 1) + 1))), none, none, none, none] [] (hs (hs (hs (hs (hs (hs h 40 (oB 5 [.int thr, .int (nI rc), .ref 41, .ref 42, .ref 43, .int (nI mc), .ref 44, .ref 45, .int tch, .int frs, .ref 46, .ref 47, .int (nI nn), .ref 48, .ref 49, .ref 50, .ref 51, .ref 56])) 46 (aI 201 (ltA (i4 + 1 + 1) (codI (chM cs mn m)) co))) 47 (aI 201 (ltA (i4 + 1 + 1) (gdI dg (chM cs mn m)) dg))) 48 (aI 6 (fun b => nI (((itr (fun i s => swP (chM cs mn m i4) i s) 5 ((wkI (chM cs mn m) i4).1, (fun (_ : Nat) => (0 : Int32)))).1) b)))) 49 (aI 6 ((itr (fun i s => swP (chM cs mn m i4) i s) 5 ((wkI (chM cs mn m) i4).1, (fun (_ : Nat) => (0 : Int32)))).2))) 50 (aI 6 ((itr (fun i s => swP (chM cs mn m i4) i s) 5 ((wkI (chM cs mn m) i4).1, (fun (_ : Nat) => (0 : Int32)))).2))) n 0 0
            refine g_cv (ihi4 (trivial)) rfl rfl
    · intro IN17
      refine g_iload_n hX dX5_walkChanges_44 rfl rfl ?_
      refine g_iload_n hX dX5_walkChanges_45 rfl rfl ?_
      refine g_icmp_gtN (tgt := 263) hX dX5_walkChanges_46 (by decide) (by omega) (fun c18 => ?_) (fun c18 => absurd c18 (by omega))
      refine g_return hX hr dX5_walkChanges_263 (Nat.le_refl _) (Nat.le_refl _)  ?_
      exact ⟨rfl, rfl, fun j hj => (hs_ne (by omega)).trans ((hs_ne (by omega)).trans ((hs_ne (by omega)).trans ((hs_ne (by omega)).trans ((hs_ne (by omega)).trans (hs_cgj (rfl)))))), _, _, _, _, _, ((hs_ne (by omega)).trans ((hs_ne (by omega)).trans ((hs_ne (by omega)).trans ((hs_ne (by omega)).trans (hs_eq _ _ _))))), ((hs_ne (by omega)).trans ((hs_ne (by omega)).trans ((hs_ne (by omega)).trans (hs_eq _ _ _)))), ((hs_ne (by omega)).trans ((hs_ne (by omega)).trans (hs_eq _ _ _))), ((hs_ne (by omega)).trans (hs_eq _ _ _)), (hs_eq _ _ _), fun k hk => ltA_N (by omega), fun k hk => (ltA_N (by omega)).trans (if_neg (by omega))⟩
