set_option maxRecDepth 20000 in
theorem kX3_requireIndex {l : Launch} {K : gw_K} (hst : l.stackTraces = false) {i z : Int32} {h : gw_H} {n : Nat}  (hz : ¬ (i < 0 ∨ z ≤ i)) : Ctr l K mX3_requireIndex [.int i, .int z] h n 0 0 (PQ (none) h n) (PX0) := by
  refine Ctr.of hst pn_X3_requireIndex (Nat.le_of_ble_eq_true rfl) (fun X hX hr hE => ?_)
  have hX : FX l K X cX3_requireIndex RX3 6 90 0 0 := hX
  show GW X 0 [some (.int i), some (.int z)] [] h n 0 0
  refine g_iload_n hX dX3_requireIndex_0 rfl rfl ?_
  refine g_if_lt (tgt := 9) hX dX3_requireIndex_1 (by decide) (fun c1 => absurd c1 (fun q => hz (Or.inl q))) (fun c1 => ?_)
  refine g_iload_n hX dX3_requireIndex_4 rfl rfl ?_
  refine g_iload_n hX dX3_requireIndex_5 rfl rfl ?_
  refine g_icmp_lt (tgt := 19) hX dX3_requireIndex_6 (by decide) (fun c2 => ?_) (fun c2 => absurd c2 (fun q => hz (Or.inr (gn_ile.mp q))))
  refine g_return hX hr dX3_requireIndex_19 (Nat.le_refl _) (Nat.le_refl _)  ?_
  exact ⟨rfl, rfl, rfl⟩
set_option maxRecDepth 20000 in
theorem kX3_requireIndex_x {l : Launch} {K : gw_K} (hst : l.stackTraces = false) {i z : Int32} {h : gw_H} {n : Nat}  (hz : i < 0 ∨ z ≤ i) : Ctr l K mX3_requireIndex [.int i, .int z] h n 1 6 (fun _ _ _ => False) (PXQ "java/lang/IndexOutOfBoundsException" h n) := by
  refine Ctr.of hst pn_X3_requireIndex (Nat.le_of_ble_eq_true rfl) (fun X hX hr hE => ?_)
  have hX : FX l K X cX3_requireIndex RX3 6 90 1 6 := hX
  show GW X 0 [some (.int i), some (.int z)] [] h n 0 0
  refine g_iload_n hX dX3_requireIndex_0 rfl rfl ?_
  refine g_if_lt (tgt := 9) hX dX3_requireIndex_1 (by decide) (fun c1 => ?_) (fun c1 => ?_)
  · refine g_throwS hX hr hE.1 ts_237_239_241 dX3_requireIndex_9 dX3_requireIndex_12 dX3_requireIndex_13 dX3_requireIndex_15 dX3_requireIndex_18 (Nat.le_of_ble_eq_true rfl) (Nat.le_of_ble_eq_true rfl) (by omega) (by omega) ?_
    exact ⟨rfl, rfl, rfl⟩
  · refine g_iload_n hX dX3_requireIndex_4 rfl rfl ?_
    refine g_iload_n hX dX3_requireIndex_5 rfl rfl ?_
    refine g_icmp_lt (tgt := 19) hX dX3_requireIndex_6 (by decide) (fun c2 => ?_) (fun c2 => ?_)
    · refine g_return hX hr dX3_requireIndex_19 (by omega) (by omega)  ?_
      exact hz.elim c1 (fun z => absurd c2 (gn_ile.mpr z))
    · refine g_throwS hX hr hE.1 ts_237_239_241 dX3_requireIndex_9 dX3_requireIndex_12 dX3_requireIndex_13 dX3_requireIndex_15 dX3_requireIndex_18 (Nat.le_of_ble_eq_true rfl) (Nat.le_of_ble_eq_true rfl) (by omega) (by omega) ?_
      exact ⟨rfl, rfl, rfl⟩
set_option maxRecDepth 20000 in
theorem kX3_requireWithin {l : Launch} {K : gw_K} (hst : l.stackTraces = false) {v a b : Int32} {h : gw_H} {n : Nat}  (hz : ¬ (v < a ∨ b < v)) : Ctr l K mX3_requireWithin [.int v, .int a, .int b] h n 0 0 (PQ (none) h n) (PX0) := by
  refine Ctr.of hst pn_X3_requireWithin (Nat.le_of_ble_eq_true rfl) (fun X hX hr hE => ?_)
  have hX : FX l K X cX3_requireWithin RX3 6 90 0 0 := hX
  show GW X 0 [some (.int v), some (.int a), some (.int b)] [] h n 0 0
  refine g_iload_n hX dX3_requireWithin_0 rfl rfl ?_
  refine g_iload_n hX dX3_requireWithin_1 rfl rfl ?_
  refine g_icmp_lt (tgt := 10) hX dX3_requireWithin_2 (by decide) (fun c1 => absurd c1 (fun q => hz (Or.inl q))) (fun c1 => ?_)
  refine g_iload_n hX dX3_requireWithin_5 rfl rfl ?_
  refine g_iload_n hX dX3_requireWithin_6 rfl rfl ?_
  refine g_icmp_le (tgt := 20) hX dX3_requireWithin_7 (by decide) (fun c2 => ?_) (fun c2 => absurd c2 (fun q => hz (Or.inr (gn_ilt.mp q))))
  refine g_return hX hr dX3_requireWithin_20 (Nat.le_refl _) (Nat.le_refl _)  ?_
  exact ⟨rfl, rfl, rfl⟩
set_option maxRecDepth 20000 in
theorem kX3_requireWithin_x {l : Launch} {K : gw_K} (hst : l.stackTraces = false) {v a b : Int32} {h : gw_H} {n : Nat}  (hz : v < a ∨ b < v) : Ctr l K mX3_requireWithin [.int v, .int a, .int b] h n 1 6 (fun _ _ _ => False) (PXQ "java/lang/IllegalArgumentException" h n) := by
  refine Ctr.of hst pn_X3_requireWithin (Nat.le_of_ble_eq_true rfl) (fun X hX hr hE => ?_)
  have hX : FX l K X cX3_requireWithin RX3 6 90 1 6 := hX
  show GW X 0 [some (.int v), some (.int a), some (.int b)] [] h n 0 0
  refine g_iload_n hX dX3_requireWithin_0 rfl rfl ?_
  refine g_iload_n hX dX3_requireWithin_1 rfl rfl ?_
  refine g_icmp_lt (tgt := 10) hX dX3_requireWithin_2 (by decide) (fun c1 => ?_) (fun c1 => ?_)
  · refine g_throwS hX hr hE.1 ts_119_242_123 dX3_requireWithin_10 dX3_requireWithin_13 dX3_requireWithin_14 dX3_requireWithin_16 dX3_requireWithin_19 (Nat.le_of_ble_eq_true rfl) (Nat.le_of_ble_eq_true rfl) (by omega) (by omega) ?_
    exact ⟨rfl, rfl, rfl⟩
  · refine g_iload_n hX dX3_requireWithin_5 rfl rfl ?_
    refine g_iload_n hX dX3_requireWithin_6 rfl rfl ?_
    refine g_icmp_le (tgt := 20) hX dX3_requireWithin_7 (by decide) (fun c2 => ?_) (fun c2 => ?_)
    · refine g_return hX hr dX3_requireWithin_20 (by omega) (by omega)  ?_
      exact hz.elim c1 (fun z => absurd c2 (gn_ilt.mpr z))
    · refine g_throwS hX hr hE.1 ts_119_242_123 dX3_requireWithin_10 dX3_requireWithin_13 dX3_requireWithin_14 dX3_requireWithin_16 dX3_requireWithin_19 (Nat.le_of_ble_eq_true rfl) (Nat.le_of_ble_eq_true rfl) (by omega) (by omega) ?_
      exact ⟨rfl, rfl, rfl⟩
set_option maxRecDepth 20000 in
theorem kX3_requireSeat {l : Launch} {K : gw_K} (hst : l.stackTraces = false) {a b : Int32} {h : gw_H} {n : Nat}  (hz : ¬ ((a < 0 ∨ nI 3 ≤ a) ∨ (b < 0 ∨ nI 6 ≤ b))) : Ctr l K mX3_requireSeat [.int a, .int b] h n 0 0 (PQ (none) h n) (PX0) := by
  refine Ctr.of hst pn_X3_requireSeat (Nat.le_of_ble_eq_true rfl) (fun X hX hr hE => ?_)
  have hX : FX l K X cX3_requireSeat RX3 7 111 0 0 := hX
  show GW X 0 [some (.int a), some (.int b)] [] h n 0 0
  refine g_iload_n hX dX3_requireSeat_0 rfl rfl ?_
  refine g_iconst (v := (nI 3)) hX dX3_requireSeat_1 (by decide) ?_
  refine g_callS (As := [.int a, .int (nI 3)]) hX dX3_requireSeat_2 cb_X3_requireIndex ml_X3_33 st_X3_requireIndex rfl rfl (kX3_requireIndex hst (fun q => hz (Or.inl q))) (Nat.le_of_ble_eq_true rfl) (Nat.le_of_ble_eq_true rfl) (by omega) (by omega) (Nat.le_of_ble_eq_true rfl) GX.no (pq ?_)
  show GW X 5 [some (.int a), some (.int b)] [] h n 0 0
  refine g_iload_n hX dX3_requireSeat_5 rfl rfl ?_
  refine g_bipush (v := (nI 6)) hX dX3_requireSeat_6 (by decide) ?_
  refine g_callS (As := [.int b, .int (nI 6)]) hX dX3_requireSeat_8 cb_X3_requireIndex ml_X3_33 st_X3_requireIndex rfl rfl (kX3_requireIndex hst (fun q => hz (Or.inr q))) (Nat.le_of_ble_eq_true rfl) (Nat.le_of_ble_eq_true rfl) (by omega) (by omega) (Nat.le_of_ble_eq_true rfl) GX.no (pq ?_)
  show GW X 11 [some (.int a), some (.int b)] [] h n 0 0
  refine g_return hX hr dX3_requireSeat_11 (Nat.le_refl _) (Nat.le_refl _)  ?_
  exact ⟨rfl, rfl, rfl⟩
set_option maxRecDepth 20000 in
theorem kX3_requireSeat_x {l : Launch} {K : gw_K} (hst : l.stackTraces = false) {a b : Int32} {h : gw_H} {n : Nat}  (hz : (a < 0 ∨ nI 3 ≤ a) ∨ (b < 0 ∨ nI 6 ≤ b)) : Ctr l K mX3_requireSeat [.int a, .int b] h n 1 6 (fun _ _ _ => False) (PXQ "java/lang/IndexOutOfBoundsException" h n) := by
  refine Ctr.of hst pn_X3_requireSeat (Nat.le_of_ble_eq_true rfl) (fun X hX hr hE => ?_)
  have hX : FX l K X cX3_requireSeat RX3 7 111 1 6 := hX
  show GW X 0 [some (.int a), some (.int b)] [] h n 0 0
  refine g_iload_n hX dX3_requireSeat_0 rfl rfl ?_
  refine g_iconst (v := (nI 3)) hX dX3_requireSeat_1 (by decide) ?_
  rcases Classical.em (a < 0 ∨ (nI 3) ≤ a) with g1 | g1
  · refine g_callS (As := [.int a, .int (nI 3)]) hX dX3_requireSeat_2 cb_X3_requireIndex ml_X3_33 st_X3_requireIndex rfl rfl (kX3_requireIndex_x hst g1) (Nat.le_of_ble_eq_true rfl) (Nat.le_of_ble_eq_true rfl) (by omega) (by omega) (Nat.le_of_ble_eq_true rfl) ?_ ?_
    · refine px ?_
      refine g_out hX hr hE.1 (by omega) (by omega) ?_
      exact ⟨rfl, rfl, rfl⟩
    · exact fun _ _ _ _ h => h.elim
  · refine g_callS (As := [.int a, .int (nI 3)]) hX dX3_requireSeat_2 cb_X3_requireIndex ml_X3_33 st_X3_requireIndex rfl rfl (kX3_requireIndex hst g1) (Nat.le_of_ble_eq_true rfl) (Nat.le_of_ble_eq_true rfl) (by omega) (by omega) (Nat.le_of_ble_eq_true rfl) GX.no (pq ?_)
    show GW X 5 [some (.int a), some (.int b)] [] h n 0 0
    refine g_iload_n hX dX3_requireSeat_5 rfl rfl ?_
    refine g_bipush (v := (nI 6)) hX dX3_requireSeat_6 (by decide) ?_
    rcases Classical.em (b < 0 ∨ (nI 6) ≤ b) with g2 | g2
    · refine g_callS (As := [.int b, .int (nI 6)]) hX dX3_requireSeat_8 cb_X3_requireIndex ml_X3_33 st_X3_requireIndex rfl rfl (kX3_requireIndex_x hst g2) (Nat.le_of_ble_eq_true rfl) (Nat.le_of_ble_eq_true rfl) (by omega) (by omega) (Nat.le_of_ble_eq_true rfl) ?_ ?_
      · refine px ?_
        refine g_out hX hr hE.1 (by omega) (by omega) ?_
        exact ⟨rfl, rfl, rfl⟩
      · exact fun _ _ _ _ h => h.elim
    · refine g_callS (As := [.int b, .int (nI 6)]) hX dX3_requireSeat_8 cb_X3_requireIndex ml_X3_33 st_X3_requireIndex rfl rfl (kX3_requireIndex hst g2) (Nat.le_of_ble_eq_true rfl) (Nat.le_of_ble_eq_true rfl) (by omega) (by omega) (Nat.le_of_ble_eq_true rfl) GX.no (pq ?_)
      show GW X 11 [some (.int a), some (.int b)] [] h n 0 0
      refine g_return hX hr dX3_requireSeat_11 (by omega) (by omega)  ?_
      exact hz.elim g1 g2
set_option maxRecDepth 20000 in
theorem kX3_seatNumber {l : Launch} {K : gw_K} (hst : l.stackTraces = false) {a b : Nat} {h : gw_H} {n : Nat}   : Ctr l K mX3_seatNumber [.int (nI a), .int (nI b)] h n 0 0 (PQ (some (.int (nI (a * 6 + b)))) h n) (PX0) := by
  refine Ctr.of hst pn_X3_seatNumber (Nat.le_of_ble_eq_true rfl) (fun X hX hr hE => ?_)
  have hX : FX l K X cX3_seatNumber RX3 0 0 0 0 := hX
  show GW X 0 [some (.int (nI a)), some (.int (nI b))] [] h n 0 0
  refine g_iload_n hX dX3_seatNumber_0 rfl rfl ?_
  refine g_bipush (v := (nI 6)) hX dX3_seatNumber_1 (by decide) ?_
  refine g_imulN hX dX3_seatNumber_3 ?_
  refine g_iload_n hX dX3_seatNumber_4 rfl rfl ?_
  refine g_iaddN hX dX3_seatNumber_5 ?_
  refine g_ireturn hX hr dX3_seatNumber_6 (Nat.le_refl _) (Nat.le_refl _)  ?_
  exact ⟨rfl, rfl, rfl⟩
