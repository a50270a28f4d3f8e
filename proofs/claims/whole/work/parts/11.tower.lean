set_option maxRecDepth 20000 in
theorem kX2_ringsBell {l : Launch} {K : gw_K} (hst : l.stackTraces = false) {t rc n : Nat} {dy : Int32} {h : gw_H} {st : Nat → Int32} {r : Nat} (f0 : h t = (oB 2 [.ref (t + 1), .ref (t + 2), .ref (t + 3), .ref (t + 4), .ref (t + 5), .ref (t + 6), .ref (t + 7), .ref (t + 8), .int (nI rc), .int dy])) (fst : h (t + 7) = (aI 20 st)) (hr : r < 20) : Ctr l K mX2_ringsBell [.ref t, .int (nI r)] h n 0 0 (PQ (some (.int (if ¬ st r = -1 then nI 1 else nI 0))) h n) (PX0) := by
  refine Ctr.of hst pn_X2_ringsBell (Nat.le_of_ble_eq_true rfl) (fun X hX hr hE => ?_)
  have hX : FX l K X cX2_ringsBell RX2 0 0 0 0 := hX
  show GW X 0 [some (.ref t), some (.int (nI r))] [] h n 0 0
  refine g_aload_n hX dX2_ringsBell_0 rfl rfl ?_
  refine g_getf hX dX2_ringsBell_1 fl_X2_30 (f0) rfl ?_
  refine g_iload_n hX dX2_ringsBell_4 rfl rfl ?_
  refine g_iaload hX dX2_ringsBell_5 (fst) (r) (by omega) rfl (by omega) ?_
  refine g_iconst (v := (-1)) hX dX2_ringsBell_6 (by decide) ?_
  refine g_icmp_eq (tgt := 14) hX dX2_ringsBell_7 (by decide) (fun c1 => ?_) (fun c1 => ?_)
  · refine g_iconst (v := (nI 0)) hX dX2_ringsBell_14 (by decide) ?_
    refine g_zreturn hX hr (by decide) dX2_ringsBell_15 (Nat.le_refl _) (Nat.le_refl _)  ?_
    exact ⟨by simp [c1], rfl, rfl⟩
  · refine g_iconst (v := (nI 1)) hX dX2_ringsBell_10 (by decide) ?_
    refine g_goto (tgt := 15) hX dX2_ringsBell_11 (by decide) ?_
    refine g_zreturn hX hr (by decide) dX2_ringsBell_15 (Nat.le_refl _) (Nat.le_refl _)  ?_
    exact ⟨by simp [c1], rfl, rfl⟩
set_option maxRecDepth 20000 in
theorem kX2_bandOf {l : Launch} {K : gw_K} (hst : l.stackTraces = false) {t rc n : Nat} {dy : Int32} {h : gw_H} {st : Nat → Int32} {r : Nat} (f0 : h t = (oB 2 [.ref (t + 1), .ref (t + 2), .ref (t + 3), .ref (t + 4), .ref (t + 5), .ref (t + 6), .ref (t + 7), .ref (t + 8), .int (nI rc), .int dy])) (fst : h (t + 7) = (aI 20 st)) (hr : r < 20) : Ctr l K mX2_bandOf [.ref t, .int (nI r)] h n 0 0 (PQ (some (.int (bandI (st r)))) h n) (PX0) := by
  refine Ctr.of hst pn_X2_bandOf (Nat.le_of_ble_eq_true rfl) (fun X hX hr hE => ?_)
  have hX : FX l K X cX2_bandOf RX2 1 21 0 0 := hX
  show GW X 0 [some (.ref t), some (.int (nI r))] [] h n 0 0
  refine g_aload_n hX dX2_bandOf_0 rfl rfl ?_
  refine g_iload_n hX dX2_bandOf_1 rfl rfl ?_
  refine g_callV (As := [.int (nI r)]) hX dX2_bandOf_2 cb_X2_ringsBell ml_X2_58 im_X2_ringsBell se_X2_ringsBell rfl rfl (f0) ⟨_, rfl, rfl⟩ (kX2_ringsBell hst (f0) (fst) (by omega)) (Nat.le_of_ble_eq_true rfl) (Nat.le_of_ble_eq_true rfl) (by omega) (by omega) (Nat.le_of_ble_eq_true rfl) GX.no (pq ?_)
  show GW X 5 [some (.ref t), some (.int (nI r))] [.int (if ¬ st r = -1 then nI 1 else nI 0)] h n 0 0
  refine g_ifB_eq (tgt := 20) hX dX2_bandOf_5 (by decide) (fun c1 => ?_) (fun c1 => ?_)
  · refine g_iconst (v := (-1)) hX dX2_bandOf_20 (by decide) ?_
    refine g_ireturn hX hr dX2_bandOf_21 (Nat.le_refl _) (Nat.le_refl _)  ?_
    exact ⟨by simp [bandI, c1, Classical.not_not.mp c1], rfl, rfl⟩
  · refine g_aload_n hX dX2_bandOf_8 rfl rfl ?_
    refine g_getf hX dX2_bandOf_9 fl_X2_30 (f0) rfl ?_
    refine g_iload_n hX dX2_bandOf_12 rfl rfl ?_
    refine g_iaload hX dX2_bandOf_13 (fst) (r) (by omega) rfl (by omega) ?_
    refine g_bipush (v := (nI 6)) hX dX2_bandOf_14 (by decide) ?_
    refine g_idiv hX dX2_bandOf_16 (by decide) ?_
    refine g_goto (tgt := 21) hX dX2_bandOf_17 (by decide) ?_
    refine g_ireturn hX hr dX2_bandOf_21 (Nat.le_refl _) (Nat.le_refl _)  ?_
    exact ⟨by simp [bandI, c1], rfl, rfl⟩
set_option maxRecDepth 20000 in
theorem kX2_bellOf {l : Launch} {K : gw_K} (hst : l.stackTraces = false) {t rc n : Nat} {dy : Int32} {h : gw_H} {st : Nat → Int32} {r : Nat} (f0 : h t = (oB 2 [.ref (t + 1), .ref (t + 2), .ref (t + 3), .ref (t + 4), .ref (t + 5), .ref (t + 6), .ref (t + 7), .ref (t + 8), .int (nI rc), .int dy])) (fst : h (t + 7) = (aI 20 st)) (hr : r < 20) : Ctr l K mX2_bellOf [.ref t, .int (nI r)] h n 0 0 (PQ (some (.int (bellI (st r)))) h n) (PX0) := by
  refine Ctr.of hst pn_X2_bellOf (Nat.le_of_ble_eq_true rfl) (fun X hX hr hE => ?_)
  have hX : FX l K X cX2_bellOf RX2 1 21 0 0 := hX
  show GW X 0 [some (.ref t), some (.int (nI r))] [] h n 0 0
  refine g_aload_n hX dX2_bellOf_0 rfl rfl ?_
  refine g_iload_n hX dX2_bellOf_1 rfl rfl ?_
  refine g_callV (As := [.int (nI r)]) hX dX2_bellOf_2 cb_X2_ringsBell ml_X2_58 im_X2_ringsBell se_X2_ringsBell rfl rfl (f0) ⟨_, rfl, rfl⟩ (kX2_ringsBell hst (f0) (fst) (by omega)) (Nat.le_of_ble_eq_true rfl) (Nat.le_of_ble_eq_true rfl) (by omega) (by omega) (Nat.le_of_ble_eq_true rfl) GX.no (pq ?_)
  show GW X 5 [some (.ref t), some (.int (nI r))] [.int (if ¬ st r = -1 then nI 1 else nI 0)] h n 0 0
  refine g_ifB_eq (tgt := 20) hX dX2_bellOf_5 (by decide) (fun c1 => ?_) (fun c1 => ?_)
  · refine g_iconst (v := (-1)) hX dX2_bellOf_20 (by decide) ?_
    refine g_ireturn hX hr dX2_bellOf_21 (Nat.le_refl _) (Nat.le_refl _)  ?_
    exact ⟨by simp [bellI, c1, Classical.not_not.mp c1], rfl, rfl⟩
  · refine g_aload_n hX dX2_bellOf_8 rfl rfl ?_
    refine g_getf hX dX2_bellOf_9 fl_X2_30 (f0) rfl ?_
    refine g_iload_n hX dX2_bellOf_12 rfl rfl ?_
    refine g_iaload hX dX2_bellOf_13 (fst) (r) (by omega) rfl (by omega) ?_
    refine g_bipush (v := (nI 6)) hX dX2_bellOf_14 (by decide) ?_
    refine g_irem hX dX2_bellOf_16 (by decide) ?_
    refine g_goto (tgt := 21) hX dX2_bellOf_17 (by decide) ?_
    refine g_ireturn hX hr dX2_bellOf_21 (Nat.le_refl _) (Nat.le_refl _)  ?_
    exact ⟨by simp [bellI, c1], rfl, rfl⟩
set_option maxRecDepth 20000 in
theorem kX2_ringerAt {l : Launch} {K : gw_K} (hst : l.stackTraces = false) {t rc n : Nat} {dy : Int32} {h : gw_H} {st : Nat → Int32} {x : Int32} (f0 : h t = (oB 2 [.ref (t + 1), .ref (t + 2), .ref (t + 3), .ref (t + 4), .ref (t + 5), .ref (t + 6), .ref (t + 7), .ref (t + 8), .int (nI rc), .int dy])) (fst : h (t + 7) = (aI 20 st)) (hrc : rc ≤ 20) : Ctr l K mX2_ringerAt [.ref t, .int x] h n 0 0 (PQ (some (.int (atI st rc x))) h n) (PX0) := by
  refine Ctr.of hst pn_X2_ringerAt (Nat.le_of_ble_eq_true rfl) (fun X hX hr hE => ?_)
  have hX : FX l K X cX2_ringerAt RX2 0 0 0 0 := hX
  show GW X 0 [some (.ref t), some (.int x), none] [] h n 0 0
  refine g_iconst (v := (nI 0)) hX dX2_ringerAt_0 (by decide) ?_
  refine g_istore_n (i := 2) hX dX2_ringerAt_1 rfl (Nat.le_of_ble_eq_true rfl) rfl ?_
  refine g_loop (P := fun (i : Nat) => GW X 2 [some (.ref t), some (.int x), some (.int (nI i))] [] h n 0 0) (fun i => atI st rc x = ffi (fun r => decide (st r = x)) i (rc - i)) rc rfl ?_ ?_
  · intro i1 hi1 Ii1 ihi1
    have ihi1 : atI st rc x = ffi (fun r => decide (st r = x)) (i1 + 1) (rc - (i1 + 1)) → GW X 2 [some (.ref t), some (.int x), some (.int (nI (i1 + 1)))] [] h n 0 0 := ihi1
    refine g_iload_n hX dX2_ringerAt_2 rfl rfl ?_
    refine g_aload_n hX dX2_ringerAt_3 rfl rfl ?_
    refine g_getf hX dX2_ringerAt_4 fl_X2_42 (f0) rfl ?_
    refine g_icmp_geN (tgt := 28) hX dX2_ringerAt_7 (by decide) (by omega) (fun c2 => absurd c2 (by omega)) (fun c2 => ?_)
    refine g_aload_n hX dX2_ringerAt_10 rfl rfl ?_
    refine g_getf hX dX2_ringerAt_11 fl_X2_30 (f0) rfl ?_
    refine g_iload_n hX dX2_ringerAt_14 rfl rfl ?_
    refine g_iaload hX dX2_ringerAt_15 (fst) (i1) (by omega) rfl (by omega) ?_
    refine g_iload_n hX dX2_ringerAt_16 rfl rfl ?_
    refine g_icmp_ne (tgt := 22) hX dX2_ringerAt_17 (by decide) (fun c3 => ?_) (fun c3 => ?_)
    · refine g_iinc (v := (nI (i1 + 1))) hX dX2_ringerAt_22 rfl rfl (gn_inc _ _) ?_
      refine g_goto (tgt := 2) hX dX2_ringerAt_25 (by decide) ?_
      exact ihi1 (by rw [Ii1, ffi_step hi1, if_neg (by simp [c2, c3])])
    · refine g_iload_n hX dX2_ringerAt_20 rfl rfl ?_
      refine g_ireturn hX hr dX2_ringerAt_21 (Nat.le_refl _) (Nat.le_refl _)  ?_
      exact ⟨by rw [Ii1, ffi_step hi1, if_pos (by simp [c2, c3])], rfl, rfl⟩
  · intro IN4
    refine g_iload_n hX dX2_ringerAt_2 rfl rfl ?_
    refine g_aload_n hX dX2_ringerAt_3 rfl rfl ?_
    refine g_getf hX dX2_ringerAt_4 fl_X2_42 (f0) rfl ?_
    refine g_icmp_geN (tgt := 28) hX dX2_ringerAt_7 (by decide) (by omega) (fun c5 => ?_) (fun c5 => absurd c5 (by omega))
    refine g_iconst (v := (-1)) hX dX2_ringerAt_28 (by decide) ?_
    refine g_ireturn hX hr dX2_ringerAt_29 (Nat.le_refl _) (Nat.le_refl _)  ?_
    exact ⟨by rw [IN4, Nat.sub_self]; rfl, rfl, rfl⟩
set_option maxRecDepth 20000 in
theorem kX2_rankOf {l : Launch} {K : gw_K} (hst : l.stackTraces = false) {t rc n : Nat} {dy : Int32} {h : gw_H} {wd vt : Nat → Int32} {r : Nat} (f0 : h t = (oB 2 [.ref (t + 1), .ref (t + 2), .ref (t + 3), .ref (t + 4), .ref (t + 5), .ref (t + 6), .ref (t + 7), .ref (t + 8), .int (nI rc), .int dy])) (fwd : h (t + 1) = (aI 20 wd)) (fvt : h (t + 3) = (aI 20 vt)) (hrc : rc ≤ 20) (hr : r < 20) : Ctr l K mX2_rankOf [.ref t, .int (nI r)] h n 0 0 (PQ (some (.int (rankI wd vt rc r))) h n) (PX0) := by
  refine Ctr.of hst pn_X2_rankOf (Nat.le_of_ble_eq_true rfl) (fun X hX hr hE => ?_)
  have hX : FX l K X cX2_rankOf RX2 0 0 0 0 := hX
  show GW X 0 [some (.ref t), some (.int (nI r)), none, none] [] h n 0 0
  refine g_iconst (v := (nI 1)) hX dX2_rankOf_0 (by decide) ?_
  refine g_istore_n (i := 2) hX dX2_rankOf_1 rfl (Nat.le_of_ble_eq_true rfl) rfl ?_
  refine g_iconst (v := (nI 0)) hX dX2_rankOf_2 (by decide) ?_
  refine g_istore_n (i := 3) hX dX2_rankOf_3 rfl (Nat.le_of_ble_eq_true rfl) rfl ?_
  refine g_for (P := fun (i : Nat) (s : Int32) => GW X 4 [some (.ref t), some (.int (nI r)), some (.int s), some (.int (nI i))] [] h n 0 0) (step := fun i s => if wd i = wd r ∧ vt r < vt i then s + 1 else s) rc (nI 1) ?_ ?_
  · intro i1 s2 hi1 es2 ihi1
    have ihi1 : GW X 4 [some (.ref t), some (.int (nI r)), some (.int (if wd i1 = wd r ∧ vt r < vt i1 then s2 + 1 else s2)), some (.int (nI (i1 + 1)))] [] h n 0 0 := ihi1
    refine g_iload_n hX dX2_rankOf_4 rfl rfl ?_
    refine g_aload_n hX dX2_rankOf_5 rfl rfl ?_
    refine g_getf hX dX2_rankOf_6 fl_X2_42 (f0) rfl ?_
    refine g_icmp_geN (tgt := 51) hX dX2_rankOf_9 (by decide) (by omega) (fun c3 => absurd c3 (by omega)) (fun c3 => ?_)
    refine g_aload_n hX dX2_rankOf_12 rfl rfl ?_
    refine g_getf hX dX2_rankOf_13 fl_X2_9 (f0) rfl ?_
    refine g_iload_n hX dX2_rankOf_16 rfl rfl ?_
    refine g_iaload hX dX2_rankOf_17 (fwd) (i1) (by omega) rfl (by omega) ?_
    refine g_aload_n hX dX2_rankOf_18 rfl rfl ?_
    refine g_getf hX dX2_rankOf_19 fl_X2_9 (f0) rfl ?_
    refine g_iload_n hX dX2_rankOf_22 rfl rfl ?_
    refine g_iaload hX dX2_rankOf_23 (fwd) (r) (by omega) rfl (by omega) ?_
    refine g_icmp_ne (tgt := 45) hX dX2_rankOf_24 (by decide) (fun c4 => ?_) (fun c4 => ?_)
    · refine g_iinc (v := (nI (i1 + 1))) hX dX2_rankOf_45 rfl rfl (gn_inc _ _) ?_
      refine g_goto (tgt := 4) hX dX2_rankOf_48 (by decide) ?_
      refine g_cv ihi1 (by simp [c3, c4]) rfl
    · refine g_aload_n hX dX2_rankOf_27 rfl rfl ?_
      refine g_getf hX dX2_rankOf_28 fl_X2_18 (f0) rfl ?_
      refine g_iload_n hX dX2_rankOf_31 rfl rfl ?_
      refine g_iaload hX dX2_rankOf_32 (fvt) (i1) (by omega) rfl (by omega) ?_
      refine g_aload_n hX dX2_rankOf_33 rfl rfl ?_
      refine g_getf hX dX2_rankOf_34 fl_X2_18 (f0) rfl ?_
      refine g_iload_n hX dX2_rankOf_37 rfl rfl ?_
      refine g_iaload hX dX2_rankOf_38 (fvt) (r) (by omega) rfl (by omega) ?_
      refine g_icmp_le (tgt := 45) hX dX2_rankOf_39 (by decide) (fun c5 => ?_) (fun c5 => ?_)
      · refine g_iinc (v := (nI (i1 + 1))) hX dX2_rankOf_45 rfl rfl (gn_inc _ _) ?_
        refine g_goto (tgt := 4) hX dX2_rankOf_48 (by decide) ?_
        refine g_cv ihi1 (by simp [c3, c4, c5, gn_ile.mpr c5]) rfl
      · refine g_iinc (v := (s2 + 1)) hX dX2_rankOf_42 rfl rfl (by rfl) ?_
        refine g_iinc (v := (nI (i1 + 1))) hX dX2_rankOf_45 rfl rfl (gn_inc _ _) ?_
        refine g_goto (tgt := 4) hX dX2_rankOf_48 (by decide) ?_
        refine g_cv ihi1 (by simp [c3, c4, c5, gn_ilt.mp c5]) rfl
  · refine g_iload_n hX dX2_rankOf_4 rfl rfl ?_
    refine g_aload_n hX dX2_rankOf_5 rfl rfl ?_
    refine g_getf hX dX2_rankOf_6 fl_X2_42 (f0) rfl ?_
    refine g_icmp_geN (tgt := 51) hX dX2_rankOf_9 (by decide) (by omega) (fun c6 => ?_) (fun c6 => absurd c6 (by omega))
    refine g_iload_n hX dX2_rankOf_51 rfl rfl ?_
    refine g_ireturn hX hr dX2_rankOf_52 (Nat.le_refl _) (Nat.le_refl _)  ?_
    exact ⟨rfl, rfl, rfl⟩
set_option maxRecDepth 20000 in
theorem kX2_ringersIn {l : Launch} {K : gw_K} (hst : l.stackTraces = false) {t rc n : Nat} {dy : Int32} {h : gw_H} {st : Nat → Int32} {b : Int32} (f0 : h t = (oB 2 [.ref (t + 1), .ref (t + 2), .ref (t + 3), .ref (t + 4), .ref (t + 5), .ref (t + 6), .ref (t + 7), .ref (t + 8), .int (nI rc), .int dy])) (fst : h (t + 7) = (aI 20 st)) (hrc : rc ≤ 20) : Ctr l K mX2_ringersIn [.ref t, .int b] h n 0 0 (PQ (some (.int (cntI st rc b))) h n) (PX0) := by
  refine Ctr.of hst pn_X2_ringersIn (Nat.le_of_ble_eq_true rfl) (fun X hX hr hE => ?_)
  have hX : FX l K X cX2_ringersIn RX2 2 42 0 0 := hX
  show GW X 0 [some (.ref t), some (.int b), none, none] [] h n 0 0
  refine g_iconst (v := (nI 0)) hX dX2_ringersIn_0 (by decide) ?_
  refine g_istore_n (i := 2) hX dX2_ringersIn_1 rfl (Nat.le_of_ble_eq_true rfl) rfl ?_
  refine g_iconst (v := (nI 0)) hX dX2_ringersIn_2 (by decide) ?_
  refine g_istore_n (i := 3) hX dX2_ringersIn_3 rfl (Nat.le_of_ble_eq_true rfl) rfl ?_
  refine g_for (P := fun (i : Nat) (s : Int32) => GW X 4 [some (.ref t), some (.int b), some (.int s), some (.int (nI i))] [] h n 0 0) (step := fun i s => if bandI (st i) = b then s + 1 else s) rc (nI 0) ?_ ?_
  · intro i1 s2 hi1 es2 ihi1
    have ihi1 : GW X 4 [some (.ref t), some (.int b), some (.int (if bandI (st i1) = b then s2 + 1 else s2)), some (.int (nI (i1 + 1)))] [] h n 0 0 := ihi1
    refine g_iload_n hX dX2_ringersIn_4 rfl rfl ?_
    refine g_aload_n hX dX2_ringersIn_5 rfl rfl ?_
    refine g_getf hX dX2_ringersIn_6 fl_X2_42 (f0) rfl ?_
    refine g_icmp_geN (tgt := 30) hX dX2_ringersIn_9 (by decide) (by omega) (fun c3 => absurd c3 (by omega)) (fun c3 => ?_)
    refine g_aload_n hX dX2_ringersIn_12 rfl rfl ?_
    refine g_iload_n hX dX2_ringersIn_13 rfl rfl ?_
    refine g_callV (As := [.int (nI i1)]) hX dX2_ringersIn_14 cb_X2_bandOf ml_X2_62 im_X2_bandOf se_X2_bandOf rfl rfl (f0) ⟨_, rfl, rfl⟩ (kX2_bandOf hst (f0) (fst) (by omega)) (Nat.le_of_ble_eq_true rfl) (Nat.le_of_ble_eq_true rfl) (by omega) (by omega) (Nat.le_of_ble_eq_true rfl) GX.no (pq ?_)
    show GW X 17 [some (.ref t), some (.int b), some (.int s2), some (.int (nI i1))] [.int (bandI (st i1))] h n 0 0
    refine g_iload_n hX dX2_ringersIn_17 rfl rfl ?_
    refine g_icmp_ne (tgt := 24) hX dX2_ringersIn_18 (by decide) (fun c4 => ?_) (fun c4 => ?_)
    · refine g_iinc (v := (nI (i1 + 1))) hX dX2_ringersIn_24 rfl rfl (gn_inc _ _) ?_
      refine g_goto (tgt := 4) hX dX2_ringersIn_27 (by decide) ?_
      refine g_cv ihi1 (by simp [c3, c4]) rfl
    · refine g_iinc (v := (s2 + 1)) hX dX2_ringersIn_21 rfl rfl (by rfl) ?_
      refine g_iinc (v := (nI (i1 + 1))) hX dX2_ringersIn_24 rfl rfl (gn_inc _ _) ?_
      refine g_goto (tgt := 4) hX dX2_ringersIn_27 (by decide) ?_
      refine g_cv ihi1 (by simp [c3, c4]) rfl
  · refine g_iload_n hX dX2_ringersIn_4 rfl rfl ?_
    refine g_aload_n hX dX2_ringersIn_5 rfl rfl ?_
    refine g_getf hX dX2_ringersIn_6 fl_X2_42 (f0) rfl ?_
    refine g_icmp_geN (tgt := 30) hX dX2_ringersIn_9 (by decide) (by omega) (fun c5 => ?_) (fun c5 => absurd c5 (by omega))
    refine g_iload_n hX dX2_ringersIn_30 rfl rfl ?_
    refine g_ireturn hX hr dX2_ringersIn_31 (Nat.le_refl _) (Nat.le_refl _)  ?_
    exact ⟨rfl, rfl, rfl⟩
set_option maxRecDepth 20000 in
theorem kX2_ringersAtBells {l : Launch} {K : gw_K} (hst : l.stackTraces = false) {t rc n : Nat} {dy : Int32} {h : gw_H} {st : Nat → Int32}  (f0 : h t = (oB 2 [.ref (t + 1), .ref (t + 2), .ref (t + 3), .ref (t + 4), .ref (t + 5), .ref (t + 6), .ref (t + 7), .ref (t + 8), .int (nI rc), .int dy])) (fst : h (t + 7) = (aI 20 st)) (hrc : rc ≤ 20) : Ctr l K mX2_ringersAtBells [.ref t] h n 0 0 (PQ (some (.int (busyI st rc))) h n) (PX0) := by
  refine Ctr.of hst pn_X2_ringersAtBells (Nat.le_of_ble_eq_true rfl) (fun X hX hr hE => ?_)
  have hX : FX l K X cX2_ringersAtBells RX2 3 65 0 0 := hX
  show GW X 0 [some (.ref t), none, none] [] h n 0 0
  refine g_iconst (v := (nI 0)) hX dX2_ringersAtBells_0 (by decide) ?_
  refine g_istore_n (i := 1) hX dX2_ringersAtBells_1 rfl (Nat.le_of_ble_eq_true rfl) rfl ?_
  refine g_iconst (v := (nI 0)) hX dX2_ringersAtBells_2 (by decide) ?_
  refine g_istore_n (i := 2) hX dX2_ringersAtBells_3 rfl (Nat.le_of_ble_eq_true rfl) rfl ?_
  refine g_for (P := fun (i : Nat) (s : Int32) => GW X 4 [some (.ref t), some (.int s), some (.int (nI i))] [] h n 0 0) (step := fun i s => s + cntI st rc (nI i)) 3 (nI 0) ?_ ?_
  · intro i1 s2 hi1 es2 ihi1
    have ihi1 : GW X 4 [some (.ref t), some (.int (s2 + cntI st rc (nI i1))), some (.int (nI (i1 + 1)))] [] h n 0 0 := ihi1
    refine g_iload_n hX dX2_ringersAtBells_4 rfl rfl ?_
    refine g_iconst (v := (nI 3)) hX dX2_ringersAtBells_5 (by decide) ?_
    refine g_icmp_geN (tgt := 23) hX dX2_ringersAtBells_6 (by decide) (by omega) (fun c3 => absurd c3 (by omega)) (fun c3 => ?_)
    refine g_iload_n hX dX2_ringersAtBells_9 rfl rfl ?_
    refine g_aload_n hX dX2_ringersAtBells_10 rfl rfl ?_
    refine g_iload_n hX dX2_ringersAtBells_11 rfl rfl ?_
    refine g_callV (As := [.int (nI i1)]) hX dX2_ringersAtBells_12 cb_X2_ringersIn ml_X2_76 im_X2_ringersIn se_X2_ringersIn rfl rfl (f0) ⟨_, rfl, rfl⟩ (kX2_ringersIn hst (f0) (fst) (by omega)) (Nat.le_of_ble_eq_true rfl) (Nat.le_of_ble_eq_true rfl) (by omega) (by omega) (Nat.le_of_ble_eq_true rfl) GX.no (pq ?_)
    show GW X 15 [some (.ref t), some (.int s2), some (.int (nI i1))] [.int (cntI st rc (nI i1)), .int s2] h n 0 0
    refine g_iadd hX dX2_ringersAtBells_15 ?_
    refine g_istore_n (i := 1) hX dX2_ringersAtBells_16 rfl (Nat.le_of_ble_eq_true rfl) rfl ?_
    refine g_iinc (v := (nI (i1 + 1))) hX dX2_ringersAtBells_17 rfl rfl (gn_inc _ _) ?_
    refine g_goto (tgt := 4) hX dX2_ringersAtBells_20 (by decide) ?_
    refine g_cv ihi1 (by simp [c3]) rfl
  · refine g_iload_n hX dX2_ringersAtBells_4 rfl rfl ?_
    refine g_iconst (v := (nI 3)) hX dX2_ringersAtBells_5 (by decide) ?_
    refine g_icmp_ge (tgt := 23) hX dX2_ringersAtBells_6 (by decide) (fun _ => ?_) (fun c => absurd (by decide) c)
    refine g_iload_n hX dX2_ringersAtBells_23 rfl rfl ?_
    refine g_ireturn hX hr dX2_ringersAtBells_24 (Nat.le_refl _) (Nat.le_refl _)  ?_
    exact ⟨rfl, rfl, rfl⟩
set_option maxRecDepth 20000 in
theorem kX2_fullBands {l : Launch} {K : gw_K} (hst : l.stackTraces = false) {t rc n : Nat} {dy : Int32} {h : gw_H} {st : Nat → Int32}  (f0 : h t = (oB 2 [.ref (t + 1), .ref (t + 2), .ref (t + 3), .ref (t + 4), .ref (t + 5), .ref (t + 6), .ref (t + 7), .ref (t + 8), .int (nI rc), .int dy])) (fst : h (t + 7) = (aI 20 st)) (hrc : rc ≤ 20) : Ctr l K mX2_fullBands [.ref t] h n 0 0 (PQ (some (.int (fullI st rc))) h n) (PX0) := by
  refine Ctr.of hst pn_X2_fullBands (Nat.le_of_ble_eq_true rfl) (fun X hX hr hE => ?_)
  have hX : FX l K X cX2_fullBands RX2 3 65 0 0 := hX
  show GW X 0 [some (.ref t), none, none] [] h n 0 0
  refine g_iconst (v := (nI 0)) hX dX2_fullBands_0 (by decide) ?_
  refine g_istore_n (i := 1) hX dX2_fullBands_1 rfl (Nat.le_of_ble_eq_true rfl) rfl ?_
  refine g_iconst (v := (nI 0)) hX dX2_fullBands_2 (by decide) ?_
  refine g_istore_n (i := 2) hX dX2_fullBands_3 rfl (Nat.le_of_ble_eq_true rfl) rfl ?_
  refine g_for (P := fun (i : Nat) (s : Int32) => GW X 4 [some (.ref t), some (.int s), some (.int (nI i))] [] h n 0 0) (step := fun i s => if cntI st rc (nI i) = nI 6 then s + 1 else s) 3 (nI 0) ?_ ?_
  · intro i1 s2 hi1 es2 ihi1
    have ihi1 : GW X 4 [some (.ref t), some (.int (if cntI st rc (nI i1) = nI 6 then s2 + 1 else s2)), some (.int (nI (i1 + 1)))] [] h n 0 0 := ihi1
    refine g_iload_n hX dX2_fullBands_4 rfl rfl ?_
    refine g_iconst (v := (nI 3)) hX dX2_fullBands_5 (by decide) ?_
    refine g_icmp_geN (tgt := 28) hX dX2_fullBands_6 (by decide) (by omega) (fun c3 => absurd c3 (by omega)) (fun c3 => ?_)
    refine g_aload_n hX dX2_fullBands_9 rfl rfl ?_
    refine g_iload_n hX dX2_fullBands_10 rfl rfl ?_
    refine g_callV (As := [.int (nI i1)]) hX dX2_fullBands_11 cb_X2_ringersIn ml_X2_76 im_X2_ringersIn se_X2_ringersIn rfl rfl (f0) ⟨_, rfl, rfl⟩ (kX2_ringersIn hst (f0) (fst) (by omega)) (Nat.le_of_ble_eq_true rfl) (Nat.le_of_ble_eq_true rfl) (by omega) (by omega) (Nat.le_of_ble_eq_true rfl) GX.no (pq ?_)
    show GW X 14 [some (.ref t), some (.int s2), some (.int (nI i1))] [.int (cntI st rc (nI i1))] h n 0 0
    refine g_bipush (v := (nI 6)) hX dX2_fullBands_14 (by decide) ?_
    refine g_icmp_ne (tgt := 22) hX dX2_fullBands_16 (by decide) (fun c4 => ?_) (fun c4 => ?_)
    · refine g_iinc (v := (nI (i1 + 1))) hX dX2_fullBands_22 rfl rfl (gn_inc _ _) ?_
      refine g_goto (tgt := 4) hX dX2_fullBands_25 (by decide) ?_
      refine g_cv ihi1 (by simp [c3, c4]) rfl
    · refine g_iinc (v := (s2 + 1)) hX dX2_fullBands_19 rfl rfl (by rfl) ?_
      refine g_iinc (v := (nI (i1 + 1))) hX dX2_fullBands_22 rfl rfl (gn_inc _ _) ?_
      refine g_goto (tgt := 4) hX dX2_fullBands_25 (by decide) ?_
      refine g_cv ihi1 (by simp [c3, c4]) rfl
  · refine g_iload_n hX dX2_fullBands_4 rfl rfl ?_
    refine g_iconst (v := (nI 3)) hX dX2_fullBands_5 (by decide) ?_
    refine g_icmp_ge (tgt := 28) hX dX2_fullBands_6 (by decide) (fun _ => ?_) (fun c => absurd (by decide) c)
    refine g_iload_n hX dX2_fullBands_28 rfl rfl ?_
    refine g_ireturn hX hr dX2_fullBands_29 (Nat.le_refl _) (Nat.le_refl _)  ?_
    exact ⟨rfl, rfl, rfl⟩
set_option maxRecDepth 20000 in
theorem kX2_skillAtBells {l : Launch} {K : gw_K} (hst : l.stackTraces = false) {t rc n : Nat} {dy : Int32} {h : gw_H} {st sk : Nat → Int32}  (f0 : h t = (oB 2 [.ref (t + 1), .ref (t + 2), .ref (t + 3), .ref (t + 4), .ref (t + 5), .ref (t + 6), .ref (t + 7), .ref (t + 8), .int (nI rc), .int dy])) (fst : h (t + 7) = (aI 20 st)) (fsk : h (t + 2) = (aI 20 sk)) (hrc : rc ≤ 20) : Ctr l K mX2_skillAtBells [.ref t] h n 0 0 (PQ (some (.int (skillI st sk rc))) h n) (PX0) := by
  refine Ctr.of hst pn_X2_skillAtBells (Nat.le_of_ble_eq_true rfl) (fun X hX hr hE => ?_)
  have hX : FX l K X cX2_skillAtBells RX2 1 21 0 0 := hX
  show GW X 0 [some (.ref t), none, none] [] h n 0 0
  refine g_iconst (v := (nI 0)) hX dX2_skillAtBells_0 (by decide) ?_
  refine g_istore_n (i := 1) hX dX2_skillAtBells_1 rfl (Nat.le_of_ble_eq_true rfl) rfl ?_
  refine g_iconst (v := (nI 0)) hX dX2_skillAtBells_2 (by decide) ?_
  refine g_istore_n (i := 2) hX dX2_skillAtBells_3 rfl (Nat.le_of_ble_eq_true rfl) rfl ?_
  refine g_for (P := fun (i : Nat) (s : Int32) => GW X 4 [some (.ref t), some (.int s), some (.int (nI i))] [] h n 0 0) (step := fun i s => if st i = -1 then s else s + sk i) rc (nI 0) ?_ ?_
  · intro i1 s2 hi1 es2 ihi1
    have ihi1 : GW X 4 [some (.ref t), some (.int (if st i1 = -1 then s2 else s2 + sk i1)), some (.int (nI (i1 + 1)))] [] h n 0 0 := ihi1
    refine g_iload_n hX dX2_skillAtBells_4 rfl rfl ?_
    refine g_aload_n hX dX2_skillAtBells_5 rfl rfl ?_
    refine g_getf hX dX2_skillAtBells_6 fl_X2_42 (f0) rfl ?_
    refine g_icmp_geN (tgt := 35) hX dX2_skillAtBells_9 (by decide) (by omega) (fun c3 => absurd c3 (by omega)) (fun c3 => ?_)
    refine g_aload_n hX dX2_skillAtBells_12 rfl rfl ?_
    refine g_iload_n hX dX2_skillAtBells_13 rfl rfl ?_
    refine g_callV (As := [.int (nI i1)]) hX dX2_skillAtBells_14 cb_X2_ringsBell ml_X2_58 im_X2_ringsBell se_X2_ringsBell rfl rfl (f0) ⟨_, rfl, rfl⟩ (kX2_ringsBell hst (f0) (fst) (by omega)) (Nat.le_of_ble_eq_true rfl) (Nat.le_of_ble_eq_true rfl) (by omega) (by omega) (Nat.le_of_ble_eq_true rfl) GX.no (pq ?_)
    show GW X 17 [some (.ref t), some (.int s2), some (.int (nI i1))] [.int (if ¬ st i1 = -1 then nI 1 else nI 0)] h n 0 0
    refine g_ifB_eq (tgt := 29) hX dX2_skillAtBells_17 (by decide) (fun c4 => ?_) (fun c4 => ?_)
    · refine g_iinc (v := (nI (i1 + 1))) hX dX2_skillAtBells_29 rfl rfl (gn_inc _ _) ?_
      refine g_goto (tgt := 4) hX dX2_skillAtBells_32 (by decide) ?_
      refine g_cv ihi1 (by simp [c3, c4, Classical.not_not.mp c4]) rfl
    · refine g_iload_n hX dX2_skillAtBells_20 rfl rfl ?_
      refine g_aload_n hX dX2_skillAtBells_21 rfl rfl ?_
      refine g_getf hX dX2_skillAtBells_22 fl_X2_15 (f0) rfl ?_
      refine g_iload_n hX dX2_skillAtBells_25 rfl rfl ?_
      refine g_iaload hX dX2_skillAtBells_26 (fsk) (i1) (by omega) rfl (by omega) ?_
      refine g_iadd hX dX2_skillAtBells_27 ?_
      refine g_istore_n (i := 1) hX dX2_skillAtBells_28 rfl (Nat.le_of_ble_eq_true rfl) rfl ?_
      refine g_iinc (v := (nI (i1 + 1))) hX dX2_skillAtBells_29 rfl rfl (gn_inc _ _) ?_
      refine g_goto (tgt := 4) hX dX2_skillAtBells_32 (by decide) ?_
      refine g_cv ihi1 (by simp [c3, c4]) rfl
  · refine g_iload_n hX dX2_skillAtBells_4 rfl rfl ?_
    refine g_aload_n hX dX2_skillAtBells_5 rfl rfl ?_
    refine g_getf hX dX2_skillAtBells_6 fl_X2_42 (f0) rfl ?_
    refine g_icmp_geN (tgt := 35) hX dX2_skillAtBells_9 (by decide) (by omega) (fun c5 => ?_) (fun c5 => absurd c5 (by omega))
    refine g_iload_n hX dX2_skillAtBells_35 rfl rfl ?_
    refine g_ireturn hX hr dX2_skillAtBells_36 (Nat.le_refl _) (Nat.le_refl _)  ?_
    exact ⟨rfl, rfl, rfl⟩
set_option maxRecDepth 20000 in
theorem kX2_allFaults {l : Launch} {K : gw_K} (hst : l.stackTraces = false) {t rc n : Nat} {dy : Int32} {h : gw_H} {fa : Nat → Int32}  (f0 : h t = (oB 2 [.ref (t + 1), .ref (t + 2), .ref (t + 3), .ref (t + 4), .ref (t + 5), .ref (t + 6), .ref (t + 7), .ref (t + 8), .int (nI rc), .int dy])) (ffa : h (t + 5) = (aI 20 fa)) (hrc : rc ≤ 20) : Ctr l K mX2_allFaults [.ref t] h n 0 0 (PQ (some (.int (sumI fa rc))) h n) (PX0) := by
  refine Ctr.of hst pn_X2_allFaults (Nat.le_of_ble_eq_true rfl) (fun X hX hr hE => ?_)
  have hX : FX l K X cX2_allFaults RX2 0 0 0 0 := hX
  show GW X 0 [some (.ref t), none, none] [] h n 0 0
  refine g_iconst (v := (nI 0)) hX dX2_allFaults_0 (by decide) ?_
  refine g_istore_n (i := 1) hX dX2_allFaults_1 rfl (Nat.le_of_ble_eq_true rfl) rfl ?_
  refine g_iconst (v := (nI 0)) hX dX2_allFaults_2 (by decide) ?_
  refine g_istore_n (i := 2) hX dX2_allFaults_3 rfl (Nat.le_of_ble_eq_true rfl) rfl ?_
  refine g_for (P := fun (i : Nat) (s : Int32) => GW X 4 [some (.ref t), some (.int s), some (.int (nI i))] [] h n 0 0) (step := fun i s => s + fa i) rc (nI 0) ?_ ?_
  · intro i1 s2 hi1 es2 ihi1
    have ihi1 : GW X 4 [some (.ref t), some (.int (s2 + fa i1)), some (.int (nI (i1 + 1)))] [] h n 0 0 := ihi1
    refine g_iload_n hX dX2_allFaults_4 rfl rfl ?_
    refine g_aload_n hX dX2_allFaults_5 rfl rfl ?_
    refine g_getf hX dX2_allFaults_6 fl_X2_42 (f0) rfl ?_
    refine g_icmp_geN (tgt := 27) hX dX2_allFaults_9 (by decide) (by omega) (fun c3 => absurd c3 (by omega)) (fun c3 => ?_)
    refine g_iload_n hX dX2_allFaults_12 rfl rfl ?_
    refine g_aload_n hX dX2_allFaults_13 rfl rfl ?_
    refine g_getf hX dX2_allFaults_14 fl_X2_24 (f0) rfl ?_
    refine g_iload_n hX dX2_allFaults_17 rfl rfl ?_
    refine g_iaload hX dX2_allFaults_18 (ffa) (i1) (by omega) rfl (by omega) ?_
    refine g_iadd hX dX2_allFaults_19 ?_
    refine g_istore_n (i := 1) hX dX2_allFaults_20 rfl (Nat.le_of_ble_eq_true rfl) rfl ?_
    refine g_iinc (v := (nI (i1 + 1))) hX dX2_allFaults_21 rfl rfl (gn_inc _ _) ?_
    refine g_goto (tgt := 4) hX dX2_allFaults_24 (by decide) ?_
    refine g_cv ihi1 (by simp [c3]) rfl
  · refine g_iload_n hX dX2_allFaults_4 rfl rfl ?_
    refine g_aload_n hX dX2_allFaults_5 rfl rfl ?_
    refine g_getf hX dX2_allFaults_6 fl_X2_42 (f0) rfl ?_
    refine g_icmp_geN (tgt := 27) hX dX2_allFaults_9 (by decide) (by omega) (fun c4 => ?_) (fun c4 => absurd c4 (by omega))
    refine g_iload_n hX dX2_allFaults_27 rfl rfl ?_
    refine g_ireturn hX hr dX2_allFaults_28 (Nat.le_refl _) (Nat.le_refl _)  ?_
    exact ⟨rfl, rfl, rfl⟩
set_option maxRecDepth 20000 in
theorem kX2_allVotes {l : Launch} {K : gw_K} (hst : l.stackTraces = false) {t rc n : Nat} {dy : Int32} {h : gw_H} {vt : Nat → Int32}  (f0 : h t = (oB 2 [.ref (t + 1), .ref (t + 2), .ref (t + 3), .ref (t + 4), .ref (t + 5), .ref (t + 6), .ref (t + 7), .ref (t + 8), .int (nI rc), .int dy])) (fvt : h (t + 3) = (aI 20 vt)) (hrc : rc ≤ 20) : Ctr l K mX2_allVotes [.ref t] h n 0 0 (PQ (some (.int (sumI vt rc))) h n) (PX0) := by
  refine Ctr.of hst pn_X2_allVotes (Nat.le_of_ble_eq_true rfl) (fun X hX hr hE => ?_)
  have hX : FX l K X cX2_allVotes RX2 0 0 0 0 := hX
  show GW X 0 [some (.ref t), none, none] [] h n 0 0
  refine g_iconst (v := (nI 0)) hX dX2_allVotes_0 (by decide) ?_
  refine g_istore_n (i := 1) hX dX2_allVotes_1 rfl (Nat.le_of_ble_eq_true rfl) rfl ?_
  refine g_iconst (v := (nI 0)) hX dX2_allVotes_2 (by decide) ?_
  refine g_istore_n (i := 2) hX dX2_allVotes_3 rfl (Nat.le_of_ble_eq_true rfl) rfl ?_
  refine g_for (P := fun (i : Nat) (s : Int32) => GW X 4 [some (.ref t), some (.int s), some (.int (nI i))] [] h n 0 0) (step := fun i s => s + vt i) rc (nI 0) ?_ ?_
  · intro i1 s2 hi1 es2 ihi1
    have ihi1 : GW X 4 [some (.ref t), some (.int (s2 + vt i1)), some (.int (nI (i1 + 1)))] [] h n 0 0 := ihi1
    refine g_iload_n hX dX2_allVotes_4 rfl rfl ?_
    refine g_aload_n hX dX2_allVotes_5 rfl rfl ?_
    refine g_getf hX dX2_allVotes_6 fl_X2_42 (f0) rfl ?_
    refine g_icmp_geN (tgt := 27) hX dX2_allVotes_9 (by decide) (by omega) (fun c3 => absurd c3 (by omega)) (fun c3 => ?_)
    refine g_iload_n hX dX2_allVotes_12 rfl rfl ?_
    refine g_aload_n hX dX2_allVotes_13 rfl rfl ?_
    refine g_getf hX dX2_allVotes_14 fl_X2_18 (f0) rfl ?_
    refine g_iload_n hX dX2_allVotes_17 rfl rfl ?_
    refine g_iaload hX dX2_allVotes_18 (fvt) (i1) (by omega) rfl (by omega) ?_
    refine g_iadd hX dX2_allVotes_19 ?_
    refine g_istore_n (i := 1) hX dX2_allVotes_20 rfl (Nat.le_of_ble_eq_true rfl) rfl ?_
    refine g_iinc (v := (nI (i1 + 1))) hX dX2_allVotes_21 rfl rfl (gn_inc _ _) ?_
    refine g_goto (tgt := 4) hX dX2_allVotes_24 (by decide) ?_
    refine g_cv ihi1 (by simp [c3]) rfl
  · refine g_iload_n hX dX2_allVotes_4 rfl rfl ?_
    refine g_aload_n hX dX2_allVotes_5 rfl rfl ?_
    refine g_getf hX dX2_allVotes_6 fl_X2_42 (f0) rfl ?_
    refine g_icmp_geN (tgt := 27) hX dX2_allVotes_9 (by decide) (by omega) (fun c4 => ?_) (fun c4 => absurd c4 (by omega))
    refine g_iload_n hX dX2_allVotes_27 rfl rfl ?_
    refine g_ireturn hX hr dX2_allVotes_28 (Nat.le_refl _) (Nat.le_refl _)  ?_
    exact ⟨rfl, rfl, rfl⟩
set_option maxRecDepth 20000 in
theorem kX2_isFresh {l : Launch} {K : gw_K} (hst : l.stackTraces = false) {t rc n : Nat} {dy : Int32} {h : gw_H} {st ti : Nat → Int32} {b : Int32} (f0 : h t = (oB 2 [.ref (t + 1), .ref (t + 2), .ref (t + 3), .ref (t + 4), .ref (t + 5), .ref (t + 6), .ref (t + 7), .ref (t + 8), .int (nI rc), .int dy])) (fst : h (t + 7) = (aI 20 st)) (fti : h (t + 4) = (aI 20 ti)) (hrc : rc ≤ 20) : Ctr l K mX2_isFresh [.ref t, .int b] h n 0 0 (PQ (some (.int (if freshI st ti rc b = nI 6 then nI 1 else nI 0))) h n) (PX0) := by
  refine Ctr.of hst pn_X2_isFresh (Nat.le_of_ble_eq_true rfl) (fun X hX hr hE => ?_)
  have hX : FX l K X cX2_isFresh RX2 2 42 0 0 := hX
  show GW X 0 [some (.ref t), some (.int b), none, none] [] h n 0 0
  refine g_iconst (v := (nI 0)) hX dX2_isFresh_0 (by decide) ?_
  refine g_istore_n (i := 2) hX dX2_isFresh_1 rfl (Nat.le_of_ble_eq_true rfl) rfl ?_
  refine g_iconst (v := (nI 0)) hX dX2_isFresh_2 (by decide) ?_
  refine g_istore_n (i := 3) hX dX2_isFresh_3 rfl (Nat.le_of_ble_eq_true rfl) rfl ?_
  refine g_for (P := fun (i : Nat) (s : Int32) => GW X 4 [some (.ref t), some (.int b), some (.int s), some (.int (nI i))] [] h n 0 0) (step := fun i s => if bandI (st i) = b ∧ ti i < nI 15 then s + 1 else s) rc (nI 0) ?_ ?_
  · intro i1 s2 hi1 es2 ihi1
    have ihi1 : GW X 4 [some (.ref t), some (.int b), some (.int (if bandI (st i1) = b ∧ ti i1 < nI 15 then s2 + 1 else s2)), some (.int (nI (i1 + 1)))] [] h n 0 0 := ihi1
    refine g_iload_n hX dX2_isFresh_4 rfl rfl ?_
    refine g_aload_n hX dX2_isFresh_5 rfl rfl ?_
    refine g_getf hX dX2_isFresh_6 fl_X2_42 (f0) rfl ?_
    refine g_icmp_geN (tgt := 41) hX dX2_isFresh_9 (by decide) (by omega) (fun c3 => absurd c3 (by omega)) (fun c3 => ?_)
    refine g_aload_n hX dX2_isFresh_12 rfl rfl ?_
    refine g_iload_n hX dX2_isFresh_13 rfl rfl ?_
    refine g_callV (As := [.int (nI i1)]) hX dX2_isFresh_14 cb_X2_bandOf ml_X2_62 im_X2_bandOf se_X2_bandOf rfl rfl (f0) ⟨_, rfl, rfl⟩ (kX2_bandOf hst (f0) (fst) (by omega)) (Nat.le_of_ble_eq_true rfl) (Nat.le_of_ble_eq_true rfl) (by omega) (by omega) (Nat.le_of_ble_eq_true rfl) GX.no (pq ?_)
    show GW X 17 [some (.ref t), some (.int b), some (.int s2), some (.int (nI i1))] [.int (bandI (st i1))] h n 0 0
    refine g_iload_n hX dX2_isFresh_17 rfl rfl ?_
    refine g_icmp_ne (tgt := 35) hX dX2_isFresh_18 (by decide) (fun c4 => ?_) (fun c4 => ?_)
    · refine g_iinc (v := (nI (i1 + 1))) hX dX2_isFresh_35 rfl rfl (gn_inc _ _) ?_
      refine g_goto (tgt := 4) hX dX2_isFresh_38 (by decide) ?_
      refine g_cv ihi1 (by simp [c3, c4]) rfl
    · refine g_aload_n hX dX2_isFresh_21 rfl rfl ?_
      refine g_getf hX dX2_isFresh_22 fl_X2_21 (f0) rfl ?_
      refine g_iload_n hX dX2_isFresh_25 rfl rfl ?_
      refine g_iaload hX dX2_isFresh_26 (fti) (i1) (by omega) rfl (by omega) ?_
      refine g_bipush (v := (nI 15)) hX dX2_isFresh_27 (by decide) ?_
      refine g_icmp_ge (tgt := 35) hX dX2_isFresh_29 (by decide) (fun c5 => ?_) (fun c5 => ?_)
      · refine g_iinc (v := (nI (i1 + 1))) hX dX2_isFresh_35 rfl rfl (gn_inc _ _) ?_
        refine g_goto (tgt := 4) hX dX2_isFresh_38 (by decide) ?_
        refine g_cv ihi1 (by simp [c3, c4, c5, gn_ile.mpr c5]) rfl
      · refine g_iinc (v := (s2 + 1)) hX dX2_isFresh_32 rfl rfl (by rfl) ?_
        refine g_iinc (v := (nI (i1 + 1))) hX dX2_isFresh_35 rfl rfl (gn_inc _ _) ?_
        refine g_goto (tgt := 4) hX dX2_isFresh_38 (by decide) ?_
        refine g_cv ihi1 (by simp [c3, c4, c5, gn_ilt.mp c5]) rfl
  · refine g_iload_n hX dX2_isFresh_4 rfl rfl ?_
    refine g_aload_n hX dX2_isFresh_5 rfl rfl ?_
    refine g_getf hX dX2_isFresh_6 fl_X2_42 (f0) rfl ?_
    refine g_icmp_geN (tgt := 41) hX dX2_isFresh_9 (by decide) (by omega) (fun c6 => ?_) (fun c6 => absurd c6 (by omega))
    refine g_iload_n hX dX2_isFresh_41 rfl rfl ?_
    refine g_bipush (v := (nI 6)) hX dX2_isFresh_42 (by decide) ?_
    refine g_icmp_ne (tgt := 51) hX dX2_isFresh_44 (by decide) (fun c7 => ?_) (fun c7 => ?_)
    · refine g_iconst (v := (nI 0)) hX dX2_isFresh_51 (by decide) ?_
      refine g_zreturn hX hr (by decide) dX2_isFresh_52 (Nat.le_refl _) (Nat.le_refl _)  ?_
      exact ⟨by simp [freshI, c7], rfl, rfl⟩
    · refine g_iconst (v := (nI 1)) hX dX2_isFresh_47 (by decide) ?_
      refine g_goto (tgt := 52) hX dX2_isFresh_48 (by decide) ?_
      refine g_zreturn hX hr (by decide) dX2_isFresh_52 (Nat.le_refl _) (Nat.le_refl _)  ?_
      exact ⟨by simp [freshI, c7], rfl, rfl⟩
set_option maxRecDepth 20000 in
theorem kX2_changeVotes {l : Launch} {K : gw_K} (hst : l.stackTraces = false) {t rc n : Nat} {dy : Int32} {h : gw_H} {vt : Nat → Int32} {r : Nat} {m : Int32} (f0 : h t = (oB 2 [.ref (t + 1), .ref (t + 2), .ref (t + 3), .ref (t + 4), .ref (t + 5), .ref (t + 6), .ref (t + 7), .ref (t + 8), .int (nI rc), .int dy])) (fvt : h (t + 3) = (aI 20 vt)) (hr : r < 20) : Ctr l K mX2_changeVotes [.ref t, .int (nI r), .int m] h n 0 0 (PQ (none) (hs h (t + 3) (aI 20 (upd vt r (clampI (vt r + m))))) n) (PX0) := by
  refine Ctr.of hst pn_X2_changeVotes (Nat.le_of_ble_eq_true rfl) (fun X hX hr hE => ?_)
  have hX : FX l K X cX2_changeVotes RX2 1 21 0 0 := hX
  show GW X 0 [some (.ref t), some (.int (nI r)), some (.int m)] [] h n 0 0
  refine g_aload_n hX dX2_changeVotes_0 rfl rfl ?_
  refine g_getf hX dX2_changeVotes_1 fl_X2_18 (f0) rfl ?_
  refine g_iload_n hX dX2_changeVotes_4 rfl rfl ?_
  refine g_iconst (v := (nI 0)) hX dX2_changeVotes_5 (by decide) ?_
  refine g_bipush (v := (nI 99)) hX dX2_changeVotes_6 (by decide) ?_
  refine g_aload_n hX dX2_changeVotes_8 rfl rfl ?_
  refine g_getf hX dX2_changeVotes_9 fl_X2_18 (f0) rfl ?_
  refine g_iload_n hX dX2_changeVotes_12 rfl rfl ?_
  refine g_iaload hX dX2_changeVotes_13 (fvt) (r) (by omega) rfl (by omega) ?_
  refine g_iload_n hX dX2_changeVotes_14 rfl rfl ?_
  refine g_iadd hX dX2_changeVotes_15 ?_
  refine g_mmin hX dX2_changeVotes_16 ml_X2_49 w_mminS w_mI w_mminC (Nat.le_of_ble_eq_true rfl) (Nat.le_of_ble_eq_true rfl) (by omega) (by omega) ?_
  refine g_mmax hX dX2_changeVotes_19 ml_X2_55 w_mmaxS w_mI w_mmaxC (Nat.le_of_ble_eq_true rfl) (Nat.le_of_ble_eq_true rfl) (by omega) (by omega) ?_
  refine g_iastore hX dX2_changeVotes_22 (fvt) (r) (by omega) rfl (by omega) ?_
  refine g_return hX hr dX2_changeVotes_23 (Nat.le_refl _) (Nat.le_refl _)  ?_
  exact ⟨rfl, rfl, rfl⟩
set_option maxRecDepth 20000 in
theorem kX2_electTo {l : Launch} {K : gw_K} (hst : l.stackTraces = false) {t rc n : Nat} {dy : Int32} {h : gw_H} {wd vt st ws : Nat → Int32} {seat : Nat} (f0 : h t = (oB 2 [.ref (t + 1), .ref (t + 2), .ref (t + 3), .ref (t + 4), .ref (t + 5), .ref (t + 6), .ref (t + 7), .ref (t + 8), .int (nI rc), .int dy])) (fwd : h (t + 1) = (aI 20 wd)) (fvt : h (t + 3) = (aI 20 vt)) (fst : h (t + 7) = (aI 20 st)) (fws : h (t + 8) = (aI 18 ws)) (hrc : rc ≤ 20) (hs18 : seat < 18) : Ctr l K mX2_electTo [.ref t, .int (nI seat)] h n 0 0 (PQ (none) (hs h (t + 7) (aI 20 (elTo wd vt ws rc st seat))) n) (PX0) := by
  refine Ctr.of hst pn_X2_electTo (Nat.le_of_ble_eq_true rfl) (fun X hX hr hE => ?_)
  have hX : FX l K X cX2_electTo RX2 1 21 0 0 := hX
  show GW X 0 [some (.ref t), some (.int (nI seat)), none, none, none] [] h n 0 0
  refine g_iconst (v := (-1)) hX dX2_electTo_0 (by decide) ?_
  refine g_istore_n (i := 2) hX dX2_electTo_1 rfl (Nat.le_of_ble_eq_true rfl) rfl ?_
  refine g_iconst (v := (-1)) hX dX2_electTo_2 (by decide) ?_
  refine g_istore_n (i := 3) hX dX2_electTo_3 rfl (Nat.le_of_ble_eq_true rfl) rfl ?_
  refine g_iconst (v := (nI 0)) hX dX2_electTo_4 (by decide) ?_
  refine g_istore hX dX2_electTo_5 (Nat.le_of_ble_eq_true rfl) rfl ?_
  refine g_cg (L' := [some (.ref t), some (.int (nI seat)), some (.int ((-1, -1).1)), some (.int ((-1, -1).2)), some (.int (nI 0))]) (h' := h) (by rfl) (by rfl) ?_
  refine g_for (P := fun (i : Nat) (s : Int32 × Int32) => GW X 7 [some (.ref t), some (.int (nI seat)), some (.int s.1), some (.int s.2), some (.int (nI i))] [] h n 0 0) (step := fun i s => bestP wd vt st (ws seat) i s) rc (-1, -1) ?_ ?_
  · intro i1 ⟨bs2, ms2⟩ hi1 es2 ihi1
    have ihi1 : GW X 7 [some (.ref t), some (.int (nI seat)), some (.int ((bestP wd vt st (ws seat) i1 (bs2, ms2)).1)), some (.int ((bestP wd vt st (ws seat) i1 (bs2, ms2)).2)), some (.int (nI (i1 + 1)))] [] h n 0 0 := ihi1
    refine g_iload hX dX2_electTo_7 rfl ?_
    refine g_aload_n hX dX2_electTo_9 rfl rfl ?_
    refine g_getf hX dX2_electTo_10 fl_X2_42 (f0) rfl ?_
    refine g_icmp_geN (tgt := 69) hX dX2_electTo_13 (by decide) (by omega) (fun c3 => absurd c3 (by omega)) (fun c3 => ?_)
    refine g_aload_n hX dX2_electTo_16 rfl rfl ?_
    refine g_iload hX dX2_electTo_17 rfl ?_
    refine g_callV (As := [.int (nI i1)]) hX dX2_electTo_19 cb_X2_ringsBell ml_X2_58 im_X2_ringsBell se_X2_ringsBell rfl rfl (f0) ⟨_, rfl, rfl⟩ (kX2_ringsBell hst (f0) (fst) (by omega)) (Nat.le_of_ble_eq_true rfl) (Nat.le_of_ble_eq_true rfl) (by omega) (by omega) (Nat.le_of_ble_eq_true rfl) GX.no (pq ?_)
    show GW X 22 [some (.ref t), some (.int (nI seat)), some (.int bs2), some (.int ms2), some (.int (nI i1))] [.int (if ¬ st i1 = -1 then nI 1 else nI 0)] h n 0 0
    refine g_ifB_ne (tgt := 63) hX dX2_electTo_22 (by decide) (fun c4 => ?_) (fun c4 => ?_)
    · refine g_iinc (v := (nI (i1 + 1))) hX dX2_electTo_63 rfl rfl (gn_inc _ _) ?_
      refine g_goto (tgt := 7) hX dX2_electTo_66 (by decide) ?_
      refine g_cv ihi1 (by simp [bestP, c3, c4]) rfl
    · refine g_aload_n hX dX2_electTo_25 rfl rfl ?_
      refine g_getf hX dX2_electTo_26 fl_X2_9 (f0) rfl ?_
      refine g_iload hX dX2_electTo_29 rfl ?_
      refine g_iaload hX dX2_electTo_31 (fwd) (i1) (by omega) rfl (by omega) ?_
      refine g_aload_n hX dX2_electTo_32 rfl rfl ?_
      refine g_getf hX dX2_electTo_33 fl_X2_33 (f0) rfl ?_
      refine g_iload_n hX dX2_electTo_36 rfl rfl ?_
      refine g_iaload hX dX2_electTo_37 (fws) (seat) (by omega) rfl (by omega) ?_
      refine g_icmp_ne (tgt := 63) hX dX2_electTo_38 (by decide) (fun c5 => ?_) (fun c5 => ?_)
      · refine g_iinc (v := (nI (i1 + 1))) hX dX2_electTo_63 rfl rfl (gn_inc _ _) ?_
        refine g_goto (tgt := 7) hX dX2_electTo_66 (by decide) ?_
        refine g_cv ihi1 (by simp [bestP, c3, c4, c5, Classical.not_not.mp c4]) rfl
      · refine g_aload_n hX dX2_electTo_41 rfl rfl ?_
        refine g_getf hX dX2_electTo_42 fl_X2_18 (f0) rfl ?_
        refine g_iload hX dX2_electTo_45 rfl ?_
        refine g_iaload hX dX2_electTo_47 (fvt) (i1) (by omega) rfl (by omega) ?_
        refine g_iload_n hX dX2_electTo_48 rfl rfl ?_
        refine g_icmp_le (tgt := 63) hX dX2_electTo_49 (by decide) (fun c6 => ?_) (fun c6 => ?_)
        · refine g_iinc (v := (nI (i1 + 1))) hX dX2_electTo_63 rfl rfl (gn_inc _ _) ?_
          refine g_goto (tgt := 7) hX dX2_electTo_66 (by decide) ?_
          refine g_cv ihi1 (by simp [bestP, c3, c4, c5, c6, Classical.not_not.mp c4, gn_ile.mpr c6]) rfl
        · refine g_aload_n hX dX2_electTo_52 rfl rfl ?_
          refine g_getf hX dX2_electTo_53 fl_X2_18 (f0) rfl ?_
          refine g_iload hX dX2_electTo_56 rfl ?_
          refine g_iaload hX dX2_electTo_58 (fvt) (i1) (by omega) rfl (by omega) ?_
          refine g_istore_n (i := 3) hX dX2_electTo_59 rfl (Nat.le_of_ble_eq_true rfl) rfl ?_
          refine g_iload hX dX2_electTo_60 rfl ?_
          refine g_istore_n (i := 2) hX dX2_electTo_62 rfl (Nat.le_of_ble_eq_true rfl) rfl ?_
          refine g_iinc (v := (nI (i1 + 1))) hX dX2_electTo_63 rfl rfl (gn_inc _ _) ?_
          refine g_goto (tgt := 7) hX dX2_electTo_66 (by decide) ?_
          refine g_cv ihi1 (by simp [bestP, c3, c4, c5, c6, Classical.not_not.mp c4, gn_ilt.mp c6]) rfl
  · show GW X 7 [some (.ref t), some (.int (nI seat)), some (.int (bestI wd vt st rc (ws seat))), some (.int ((itr (fun i s => bestP wd vt st (ws seat) i s) rc (-1, -1)).2)), some (.int (nI rc))] [] h n 0 0
    refine g_iload hX dX2_electTo_7 rfl ?_
    refine g_aload_n hX dX2_electTo_9 rfl rfl ?_
    refine g_getf hX dX2_electTo_10 fl_X2_42 (f0) rfl ?_
    refine g_icmp_geN (tgt := 69) hX dX2_electTo_13 (by decide) (by omega) (fun c7 => ?_) (fun c7 => absurd c7 (by omega))
    refine g_iload_n hX dX2_electTo_69 rfl rfl ?_
    refine g_iconst (v := (-1)) hX dX2_electTo_70 (by decide) ?_
    refine g_icmp_eq (tgt := 81) hX dX2_electTo_71 (by decide) (fun c8 => ?_) (fun c8 => ?_)
    · refine g_return hX hr dX2_electTo_81 (Nat.le_refl _) (Nat.le_refl _)  ?_
      exact ⟨rfl, by rw [elTo, if_pos c8, hs_id fst], rfl⟩
    · have hbi := bestI_in hrc c8
      refine g_aload_n hX dX2_electTo_74 rfl rfl ?_
      refine g_getf hX dX2_electTo_75 fl_X2_30 (f0) rfl ?_
      refine g_iload_n hX dX2_electTo_78 rfl rfl ?_
      refine g_iload_n hX dX2_electTo_79 rfl rfl ?_
      refine g_iastore hX dX2_electTo_80 (fst) ((bestI wd vt st rc (ws seat)).toNatClampNeg) (by omega) hbi.2 (by omega) ?_
      refine g_return hX hr dX2_electTo_81 (Nat.le_refl _) (Nat.le_refl _)  ?_
      exact ⟨rfl, by rw [elTo, if_neg c8], rfl⟩
set_option maxRecDepth 20000 in
theorem kX2_electBand {l : Launch} {K : gw_K} (hst : l.stackTraces = false) {t rc n : Nat} {dy : Int32} {h : gw_H} {wd vt st ws : Nat → Int32} {b : Nat} (f0 : h t = (oB 2 [.ref (t + 1), .ref (t + 2), .ref (t + 3), .ref (t + 4), .ref (t + 5), .ref (t + 6), .ref (t + 7), .ref (t + 8), .int (nI rc), .int dy])) (fwd : h (t + 1) = (aI 20 wd)) (fvt : h (t + 3) = (aI 20 vt)) (fst : h (t + 7) = (aI 20 st)) (fws : h (t + 8) = (aI 18 ws)) (hrc : rc ≤ 20) (hb3 : b < 3) : Ctr l K mX2_electBand [.ref t, .int (nI b)] h n 0 0 (PQ (none) (hs h (t + 7) (aI 20 (elB wd vt ws rc st b))) n) (PX0) := by
  refine Ctr.of hst pn_X2_electBand (Nat.le_of_ble_eq_true rfl) (fun X hX hr hE => ?_)
  have hX : FX l K X cX2_electBand RX2 2 45 0 0 := hX
  show GW X 0 [some (.ref t), some (.int (nI b)), none, none] [] h n 0 0
  refine g_iconst (v := (nI 0)) hX dX2_electBand_0 (by decide) ?_
  refine g_istore_n (i := 2) hX dX2_electBand_1 rfl (Nat.le_of_ble_eq_true rfl) rfl ?_
  refine g_cg (L' := [some (.ref t), some (.int (nI b)), some (.int (nI 0)), none]) (h' := (hs h (t + 7) (aI 20 st))) (by rfl) (hs_id fst).symm ?_
  refine g_for (P := fun (i : Nat) (s : Nat → Int32) => GW X 2 [some (.ref t), some (.int (nI b)), some (.int (nI i)), none] [] (hs h (t + 7) (aI 20 s)) n 0 0) (step := fun i s => if bandI (s i) = nI b then upd s i (-1) else s) rc st ?_ ?_
  · intro i1 s2 hi1 es2 ihi1
    have ihi1 : GW X 2 [some (.ref t), some (.int (nI b)), some (.int (nI (i1 + 1))), none] [] (hs h (t + 7) (aI 20 (if bandI (s2 i1) = nI b then upd s2 i1 (-1) else s2))) n 0 0 := ihi1
    refine g_iload_n hX dX2_electBand_2 rfl rfl ?_
    refine g_aload_n hX dX2_electBand_3 rfl rfl ?_
    refine g_getf hX dX2_electBand_4 fl_X2_42 ((hs_ne (by omega)).trans (f0)) rfl ?_
    refine g_icmp_geN (tgt := 32) hX dX2_electBand_7 (by decide) (by omega) (fun c3 => absurd c3 (by omega)) (fun c3 => ?_)
    refine g_aload_n hX dX2_electBand_10 rfl rfl ?_
    refine g_iload_n hX dX2_electBand_11 rfl rfl ?_
    refine g_callV (As := [.int (nI i1)]) hX dX2_electBand_12 cb_X2_bandOf ml_X2_62 im_X2_bandOf se_X2_bandOf rfl rfl ((hs_ne (by omega)).trans (f0)) ⟨_, rfl, rfl⟩ (kX2_bandOf hst ((hs_ne (by omega)).trans (f0)) (hs_eq _ _ _) (by omega)) (Nat.le_of_ble_eq_true rfl) (Nat.le_of_ble_eq_true rfl) (by omega) (by omega) (Nat.le_of_ble_eq_true rfl) GX.no (pq ?_)
    show GW X 15 [some (.ref t), some (.int (nI b)), some (.int (nI i1)), none] [.int (bandI (s2 i1))] (hs h (t + 7) (aI 20 s2)) n 0 0
    refine g_iload_n hX dX2_electBand_15 rfl rfl ?_
    refine g_icmp_ne (tgt := 26) hX dX2_electBand_16 (by decide) (fun c4 => ?_) (fun c4 => ?_)
    · refine g_iinc (v := (nI (i1 + 1))) hX dX2_electBand_26 rfl rfl (gn_inc _ _) ?_
      refine g_goto (tgt := 2) hX dX2_electBand_29 (by decide) ?_
      refine g_cv ihi1 rfl (by simp [c3, c4])
    · refine g_aload_n hX dX2_electBand_19 rfl rfl ?_
      refine g_getf hX dX2_electBand_20 fl_X2_30 ((hs_ne (by omega)).trans (f0)) rfl ?_
      refine g_iload_n hX dX2_electBand_23 rfl rfl ?_
      refine g_iconst (v := (-1)) hX dX2_electBand_24 (by decide) ?_
      refine g_iastore hX dX2_electBand_25 (hs_eq _ _ _) (i1) (by omega) rfl (by omega) ?_
      refine g_cg rfl hs_hs ?_
      refine g_iinc (v := (nI (i1 + 1))) hX dX2_electBand_26 rfl rfl (gn_inc _ _) ?_
      refine g_goto (tgt := 2) hX dX2_electBand_29 (by decide) ?_
      refine g_cv ihi1 rfl (by simp [c3, c4])
  · show GW X 2 [some (.ref t), some (.int (nI b)), some (.int (nI rc)), none] [] (hs h (t + 7) (aI 20 (clrB st rc (nI b)))) n 0 0
    refine g_iload_n hX dX2_electBand_2 rfl rfl ?_
    refine g_aload_n hX dX2_electBand_3 rfl rfl ?_
    refine g_getf hX dX2_electBand_4 fl_X2_42 ((hs_ne (by omega)).trans (f0)) rfl ?_
    refine g_icmp_geN (tgt := 32) hX dX2_electBand_7 (by decide) (by omega) (fun c5 => ?_) (fun c5 => absurd c5 (by omega))
    refine g_iload_n hX dX2_electBand_32 rfl rfl ?_
    refine g_bipush (v := (nI 6)) hX dX2_electBand_33 (by decide) ?_
    refine g_imulN hX dX2_electBand_35 ?_
    refine g_istore_n (i := 2) hX dX2_electBand_36 rfl (Nat.le_of_ble_eq_true rfl) rfl ?_
    refine g_iconst (v := (nI 0)) hX dX2_electBand_37 (by decide) ?_
    refine g_istore_n (i := 3) hX dX2_electBand_38 rfl (Nat.le_of_ble_eq_true rfl) rfl ?_
    refine g_for (P := fun (i : Nat) (s : Nat → Int32) => GW X 39 [some (.ref t), some (.int (nI b)), some (.int (nI (b * 6))), some (.int (nI i))] [] (hs h (t + 7) (aI 20 s)) n 0 0) (step := fun i s => elTo wd vt ws rc s (b * 6 + i)) 6 (clrB st rc (nI b)) ?_ ?_
    · intro i6 s7 hi6 es7 ihi6
      have ihi6 : GW X 39 [some (.ref t), some (.int (nI b)), some (.int (nI (b * 6))), some (.int (nI (i6 + 1)))] [] (hs h (t + 7) (aI 20 (elTo wd vt ws rc s7 (b * 6 + i6)))) n 0 0 := ihi6
      refine g_iload_n hX dX2_electBand_39 rfl rfl ?_
      refine g_bipush (v := (nI 6)) hX dX2_electBand_40 (by decide) ?_
      refine g_icmp_geN (tgt := 58) hX dX2_electBand_42 (by decide) (by omega) (fun c8 => absurd c8 (by omega)) (fun c8 => ?_)
      refine g_aload_n hX dX2_electBand_45 rfl rfl ?_
      refine g_iload_n hX dX2_electBand_46 rfl rfl ?_
      refine g_iload_n hX dX2_electBand_47 rfl rfl ?_
      refine g_iaddN hX dX2_electBand_48 ?_
      refine g_callV (As := [.int (nI ((b * 6) + i6))]) hX dX2_electBand_49 cb_X2_electTo ml_X2_72 im_X2_electTo se_X2_electTo rfl rfl ((hs_ne (by omega)).trans (f0)) ⟨_, rfl, rfl⟩ (kX2_electTo hst ((hs_ne (by omega)).trans (f0)) ((hs_ne (by omega)).trans (fwd)) ((hs_ne (by omega)).trans (fvt)) (hs_eq _ _ _) ((hs_ne (by omega)).trans (fws)) (by omega) (by omega)) (Nat.le_of_ble_eq_true rfl) (Nat.le_of_ble_eq_true rfl) (by omega) (by omega) (Nat.le_of_ble_eq_true rfl) GX.no (pq ?_)
      show GW X 52 [some (.ref t), some (.int (nI b)), some (.int (nI (b * 6))), some (.int (nI i6))] [] (hs (hs h (t + 7) (aI 20 s7)) (t + 7) (aI 20 (elTo wd vt ws rc s7 ((b * 6) + i6)))) n 0 0
      refine g_cg rfl hs_hs ?_
      refine g_iinc (v := (nI (i6 + 1))) hX dX2_electBand_52 rfl rfl (gn_inc _ _) ?_
      refine g_goto (tgt := 39) hX dX2_electBand_55 (by decide) ?_
      refine g_cv ihi6 rfl (by simp [c5, c8])
    · refine g_iload_n hX dX2_electBand_39 rfl rfl ?_
      refine g_bipush (v := (nI 6)) hX dX2_electBand_40 (by decide) ?_
      refine g_icmp_ge (tgt := 58) hX dX2_electBand_42 (by decide) (fun _ => ?_) (fun c => absurd (by decide) c)
      refine g_return hX hr dX2_electBand_58 (Nat.le_refl _) (Nat.le_refl _)  ?_
      exact ⟨rfl, rfl, rfl⟩
set_option maxRecDepth 20000 in
theorem kX2_tellOfRinger {l : Launch} {K : gw_K} (hst : l.stackTraces = false) {t rc n : Nat} {dy : Int32} {h : gw_H} {wd sk vt ti fa st : Nat → Int32} {r q : Nat} (f0 : h t = (oB 2 [.ref (t + 1), .ref (t + 2), .ref (t + 3), .ref (t + 4), .ref (t + 5), .ref (t + 6), .ref (t + 7), .ref (t + 8), .int (nI rc), .int dy])) (fwd : h (t + 1) = (aI 20 wd)) (fsk : h (t + 2) = (aI 20 sk)) (fvt : h (t + 3) = (aI 20 vt)) (fti : h (t + 4) = (aI 20 ti)) (ffa : h (t + 5) = (aI 20 fa)) (fst : h (t + 7) = (aI 20 st)) (hrc : rc ≤ 20) (hr : r < 20) (hq : q < 8) : Ctr l K mX2_tellOfRinger [.ref t, .int (nI r), .int (nI q)] h n 0 0 (PQ (some (.int (tellI wd sk vt ti fa st rc r q))) h n) (PX0) := by
  refine Ctr.of hst pn_X2_tellOfRinger (Nat.le_of_ble_eq_true rfl) (fun X hX hr hE => ?_)
  have hX : FX l K X cX2_tellOfRinger RX2 2 42 0 0 := hX
  show GW X 0 [some (.ref t), some (.int (nI r)), some (.int (nI q))] [] h n 0 0
  refine g_iload_n hX dX2_tellOfRinger_0 rfl rfl ?_
  rcases (show q = 0 ∨ q = 1 ∨ q = 2 ∨ q = 3 ∨ q = 4 ∨ q = 5 ∨ q = 6 ∨ q = 7 by omega) with rfl | rfl | rfl | rfl | rfl | rfl | rfl | rfl
  · refine g_tableIn (tgt := 44) hX dX2_tellOfRinger_1 (by decide) (by decide) rfl (by decide) ?_
    refine g_aload_n hX dX2_tellOfRinger_44 rfl rfl ?_
    refine g_getf hX dX2_tellOfRinger_45 fl_X2_9 (f0) rfl ?_
    refine g_iload_n hX dX2_tellOfRinger_48 rfl rfl ?_
    refine g_iaload hX dX2_tellOfRinger_49 (fwd) (r) (by omega) rfl (by omega) ?_
    refine g_ireturn hX hr dX2_tellOfRinger_50 (Nat.le_refl _) (Nat.le_refl _)  ?_
    exact ⟨rfl, rfl, rfl⟩
  · refine g_tableIn (tgt := 51) hX dX2_tellOfRinger_1 (by decide) (by decide) rfl (by decide) ?_
    refine g_aload_n hX dX2_tellOfRinger_51 rfl rfl ?_
    refine g_getf hX dX2_tellOfRinger_52 fl_X2_15 (f0) rfl ?_
    refine g_iload_n hX dX2_tellOfRinger_55 rfl rfl ?_
    refine g_iaload hX dX2_tellOfRinger_56 (fsk) (r) (by omega) rfl (by omega) ?_
    refine g_ireturn hX hr dX2_tellOfRinger_57 (Nat.le_refl _) (Nat.le_refl _)  ?_
    exact ⟨rfl, rfl, rfl⟩
  · refine g_tableIn (tgt := 58) hX dX2_tellOfRinger_1 (by decide) (by decide) rfl (by decide) ?_
    refine g_aload_n hX dX2_tellOfRinger_58 rfl rfl ?_
    refine g_getf hX dX2_tellOfRinger_59 fl_X2_18 (f0) rfl ?_
    refine g_iload_n hX dX2_tellOfRinger_62 rfl rfl ?_
    refine g_iaload hX dX2_tellOfRinger_63 (fvt) (r) (by omega) rfl (by omega) ?_
    refine g_ireturn hX hr dX2_tellOfRinger_64 (Nat.le_refl _) (Nat.le_refl _)  ?_
    exact ⟨rfl, rfl, rfl⟩
  · refine g_tableIn (tgt := 65) hX dX2_tellOfRinger_1 (by decide) (by decide) rfl (by decide) ?_
    refine g_aload_n hX dX2_tellOfRinger_65 rfl rfl ?_
    refine g_getf hX dX2_tellOfRinger_66 fl_X2_21 (f0) rfl ?_
    refine g_iload_n hX dX2_tellOfRinger_69 rfl rfl ?_
    refine g_iaload hX dX2_tellOfRinger_70 (fti) (r) (by omega) rfl (by omega) ?_
    refine g_ireturn hX hr dX2_tellOfRinger_71 (Nat.le_refl _) (Nat.le_refl _)  ?_
    exact ⟨rfl, rfl, rfl⟩
  · refine g_tableIn (tgt := 72) hX dX2_tellOfRinger_1 (by decide) (by decide) rfl (by decide) ?_
    refine g_aload_n hX dX2_tellOfRinger_72 rfl rfl ?_
    refine g_iload_n hX dX2_tellOfRinger_73 rfl rfl ?_
    refine g_callV (As := [.int (nI r)]) hX dX2_tellOfRinger_74 cb_X2_bandOf ml_X2_62 im_X2_bandOf se_X2_bandOf rfl rfl (f0) ⟨_, rfl, rfl⟩ (kX2_bandOf hst (f0) (fst) (by omega)) (Nat.le_of_ble_eq_true rfl) (Nat.le_of_ble_eq_true rfl) (by omega) (by omega) (Nat.le_of_ble_eq_true rfl) GX.no (pq ?_)
    show GW X 77 [some (.ref t), some (.int (nI r)), some (.int (nI 4))] [.int (bandI (st r))] h n 0 0
    refine g_ireturn hX hr dX2_tellOfRinger_77 (Nat.le_refl _) (Nat.le_refl _)  ?_
    exact ⟨rfl, rfl, rfl⟩
  · refine g_tableIn (tgt := 78) hX dX2_tellOfRinger_1 (by decide) (by decide) rfl (by decide) ?_
    refine g_aload_n hX dX2_tellOfRinger_78 rfl rfl ?_
    refine g_iload_n hX dX2_tellOfRinger_79 rfl rfl ?_
    refine g_callV (As := [.int (nI r)]) hX dX2_tellOfRinger_80 cb_X2_bellOf ml_X2_66 im_X2_bellOf se_X2_bellOf rfl rfl (f0) ⟨_, rfl, rfl⟩ (kX2_bellOf hst (f0) (fst) (by omega)) (Nat.le_of_ble_eq_true rfl) (Nat.le_of_ble_eq_true rfl) (by omega) (by omega) (Nat.le_of_ble_eq_true rfl) GX.no (pq ?_)
    show GW X 83 [some (.ref t), some (.int (nI r)), some (.int (nI 5))] [.int (bellI (st r))] h n 0 0
    refine g_ireturn hX hr dX2_tellOfRinger_83 (Nat.le_refl _) (Nat.le_refl _)  ?_
    exact ⟨rfl, rfl, rfl⟩
  · refine g_tableIn (tgt := 84) hX dX2_tellOfRinger_1 (by decide) (by decide) rfl (by decide) ?_
    refine g_aload_n hX dX2_tellOfRinger_84 rfl rfl ?_
    refine g_getf hX dX2_tellOfRinger_85 fl_X2_24 (f0) rfl ?_
    refine g_iload_n hX dX2_tellOfRinger_88 rfl rfl ?_
    refine g_iaload hX dX2_tellOfRinger_89 (ffa) (r) (by omega) rfl (by omega) ?_
    refine g_ireturn hX hr dX2_tellOfRinger_90 (Nat.le_refl _) (Nat.le_refl _)  ?_
    exact ⟨rfl, rfl, rfl⟩
  · refine g_tableOut (tgt := 91) hX dX2_tellOfRinger_1 (by decide) (by decide) ?_
    refine g_aload_n hX dX2_tellOfRinger_91 rfl rfl ?_
    refine g_iload_n hX dX2_tellOfRinger_92 rfl rfl ?_
    refine g_callV (As := [.int (nI r)]) hX dX2_tellOfRinger_93 cb_X2_rankOf ml_X2_69 im_X2_rankOf se_X2_rankOf rfl rfl (f0) ⟨_, rfl, rfl⟩ (kX2_rankOf hst (f0) (fwd) (fvt) (by omega) (by omega)) (Nat.le_of_ble_eq_true rfl) (Nat.le_of_ble_eq_true rfl) (by omega) (by omega) (Nat.le_of_ble_eq_true rfl) GX.no (pq ?_)
    show GW X 96 [some (.ref t), some (.int (nI r)), some (.int (nI 7))] [.int (rankI wd vt rc r)] h n 0 0
    refine g_ireturn hX hr dX2_tellOfRinger_96 (Nat.le_refl _) (Nat.le_refl _)  ?_
    exact ⟨rfl, rfl, rfl⟩
set_option maxRecDepth 20000 in
theorem kX2_enrol {l : Launch} {K : gw_K} (hst : l.stackTraces = false) {t rc n : Nat} {dy : Int32} {h : gw_H} {wd sk vt st : Nat → Int32} {a b c : Int32} (f0 : h t = (oB 2 [.ref (t + 1), .ref (t + 2), .ref (t + 3), .ref (t + 4), .ref (t + 5), .ref (t + 6), .ref (t + 7), .ref (t + 8), .int (nI rc), .int dy])) (fwd : h (t + 1) = (aI 20 wd)) (fsk : h (t + 2) = (aI 20 sk)) (fvt : h (t + 3) = (aI 20 vt)) (fst : h (t + 7) = (aI 20 st)) (hrc : rc < 20) : Ctr l K mX2_enrol [.ref t, .int a, .int b, .int c] h n 0 0 (PQ (some (.int (nI rc))) (hs (hs (hs (hs (hs h (t + 1) (aI 20 (upd wd rc a))) (t + 2) (aI 20 (upd sk rc b))) (t + 3) (aI 20 (upd vt rc c))) (t + 7) (aI 20 (upd st rc (-1)))) t ((oB 2 [.ref (t + 1), .ref (t + 2), .ref (t + 3), .ref (t + 4), .ref (t + 5), .ref (t + 6), .ref (t + 7), .ref (t + 8), .int (nI (rc + 1)), .int dy]))) n) (PX0) := by
  refine Ctr.of hst pn_X2_enrol (Nat.le_of_ble_eq_true rfl) (fun X hX hr hE => ?_)
  have hX : FX l K X cX2_enrol RX2 0 0 0 0 := hX
  show GW X 0 [some (.ref t), some (.int a), some (.int b), some (.int c), none] [] h n 0 0
  refine g_aload_n hX dX2_enrol_0 rfl rfl ?_
  refine g_getf hX dX2_enrol_1 fl_X2_42 (f0) rfl ?_
  refine g_bipush (v := (nI 20)) hX dX2_enrol_4 (by decide) ?_
  refine g_icmp_ltN (tgt := 11) hX dX2_enrol_6 (by decide) (by omega) (fun c1 => ?_) (fun c1 => absurd c1 (by omega))
  refine g_aload_n hX dX2_enrol_11 rfl rfl ?_
  refine g_getf hX dX2_enrol_12 fl_X2_42 (f0) rfl ?_
  refine g_istore hX dX2_enrol_15 (Nat.le_of_ble_eq_true rfl) rfl ?_
  refine g_aload_n hX dX2_enrol_17 rfl rfl ?_
  refine g_getf hX dX2_enrol_18 fl_X2_9 (f0) rfl ?_
  refine g_iload hX dX2_enrol_21 rfl ?_
  refine g_iload_n hX dX2_enrol_23 rfl rfl ?_
  refine g_iastore hX dX2_enrol_24 (fwd) (rc) (by omega) rfl (by omega) ?_
  refine g_aload_n hX dX2_enrol_25 rfl rfl ?_
  refine g_getf hX dX2_enrol_26 fl_X2_15 ((hs_ne (by omega)).trans (f0)) rfl ?_
  refine g_iload hX dX2_enrol_29 rfl ?_
  refine g_iload_n hX dX2_enrol_31 rfl rfl ?_
  refine g_iastore hX dX2_enrol_32 ((hs_ne (by omega)).trans (fsk)) (rc) (by omega) rfl (by omega) ?_
  refine g_aload_n hX dX2_enrol_33 rfl rfl ?_
  refine g_getf hX dX2_enrol_34 fl_X2_18 ((hs_ne (by omega)).trans ((hs_ne (by omega)).trans (f0))) rfl ?_
  refine g_iload hX dX2_enrol_37 rfl ?_
  refine g_iload_n hX dX2_enrol_39 rfl rfl ?_
  refine g_iastore hX dX2_enrol_40 ((hs_ne (by omega)).trans ((hs_ne (by omega)).trans (fvt))) (rc) (by omega) rfl (by omega) ?_
  refine g_aload_n hX dX2_enrol_41 rfl rfl ?_
  refine g_getf hX dX2_enrol_42 fl_X2_30 ((hs_ne (by omega)).trans ((hs_ne (by omega)).trans ((hs_ne (by omega)).trans (f0)))) rfl ?_
  refine g_iload hX dX2_enrol_45 rfl ?_
  refine g_iconst (v := (-1)) hX dX2_enrol_47 (by decide) ?_
  refine g_iastore hX dX2_enrol_48 ((hs_ne (by omega)).trans ((hs_ne (by omega)).trans ((hs_ne (by omega)).trans (fst)))) (rc) (by omega) rfl (by omega) ?_
  refine g_aload_n hX dX2_enrol_49 rfl rfl ?_
  refine g_dup hX dX2_enrol_50 rfl ?_
  refine g_getf hX dX2_enrol_51 fl_X2_42 ((hs_ne (by omega)).trans ((hs_ne (by omega)).trans ((hs_ne (by omega)).trans ((hs_ne (by omega)).trans (f0))))) rfl ?_
  refine g_iconst (v := (nI 1)) hX dX2_enrol_54 (by decide) ?_
  refine g_iaddN hX dX2_enrol_55 ?_
  refine g_putI hX dX2_enrol_56 fl_X2_42 ((hs_ne (by omega)).trans ((hs_ne (by omega)).trans ((hs_ne (by omega)).trans ((hs_ne (by omega)).trans (f0))))) (Nat.le_of_ble_eq_true rfl) ?_
  show GW X 59 [some (.ref t), some (.int a), some (.int b), some (.int c), some (.int (nI rc))] [] (hs (hs (hs (hs (hs h (t + 1) (aI 20 (upd wd rc a))) (t + 2) (aI 20 (upd sk rc b))) (t + 3) (aI 20 (upd vt rc c))) (t + 7) (aI 20 (upd st rc (-1)))) t (oB 2 [.ref (t + 1), .ref (t + 2), .ref (t + 3), .ref (t + 4), .ref (t + 5), .ref (t + 6), .ref (t + 7), .ref (t + 8), .int (nI (rc + 1)), .int dy])) n 0 0
  refine g_iload hX dX2_enrol_59 rfl ?_
  refine g_ireturn hX hr dX2_enrol_61 (Nat.le_refl _) (Nat.le_refl _)  ?_
  exact ⟨rfl, rfl, rfl⟩
set_option maxRecDepth 20000 in
theorem kX2_copyFrom {l : Launch} {K : gw_K} (hst : l.stackTraces = false) {t o rc orc n : Nat} {dy ody : Int32} {h : gw_H} {wd sk vt ti fa st ws owd osk ovt oti ofa ost ows : Nat → Int32} (f0 : h t = (oB 2 [.ref (t + 1), .ref (t + 2), .ref (t + 3), .ref (t + 4), .ref (t + 5), .ref (t + 6), .ref (t + 7), .ref (t + 8), .int (nI rc), .int dy])) (fwd : h (t + 1) = (aI 20 wd)) (fsk : h (t + 2) = (aI 20 sk)) (fvt : h (t + 3) = (aI 20 vt)) (fti : h (t + 4) = (aI 20 ti)) (ffa : h (t + 5) = (aI 20 fa)) (fst : h (t + 7) = (aI 20 st)) (fws : h (t + 8) = (aI 18 ws)) (g0 : h o = (oB 2 [.ref (o + 1), .ref (o + 2), .ref (o + 3), .ref (o + 4), .ref (o + 5), .ref (o + 6), .ref (o + 7), .ref (o + 8), .int (nI orc), .int ody])) (gwd : h (o + 1) = (aI 20 owd)) (gsk : h (o + 2) = (aI 20 osk)) (gvt : h (o + 3) = (aI 20 ovt)) (gti : h (o + 4) = (aI 20 oti)) (gfa : h (o + 5) = (aI 20 ofa)) (gst : h (o + 7) = (aI 20 ost)) (gws : h (o + 8) = (aI 18 ows)) (hto : t + 9 ≤ o ∨ o + 9 ≤ t) : Ctr l K mX2_copyFrom [.ref t, .ref o] h n 0 0 (PQ (none) (hs (hs (hs (hs (hs (hs (hs (hs h (t + 1) (aI 20 owd)) (t + 2) (aI 20 osk)) (t + 3) (aI 20 ovt)) (t + 4) (aI 20 oti)) (t + 5) (aI 20 ofa)) (t + 7) (aI 20 ost)) (t + 8) (aI 18 ows)) t ((oB 2 [.ref (t + 1), .ref (t + 2), .ref (t + 3), .ref (t + 4), .ref (t + 5), .ref (t + 6), .ref (t + 7), .ref (t + 8), .int (nI orc), .int ody]))) n) (PX0) := by
  refine Ctr.of hst pn_X2_copyFrom (Nat.le_of_ble_eq_true rfl) (fun X hX hr hE => ?_)
  have hX : FX l K X cX2_copyFrom RX2 1 60 0 0 := hX
  show GW X 0 [some (.ref t), some (.ref o)] [] h n 0 0
  refine g_aload_n hX dX2_copyFrom_0 rfl rfl ?_
  refine g_getf hX dX2_copyFrom_1 fl_X2_9 (g0) rfl ?_
  refine g_iconst (v := (nI 0)) hX dX2_copyFrom_4 (by decide) ?_
  refine g_aload_n hX dX2_copyFrom_5 rfl rfl ?_
  refine g_getf hX dX2_copyFrom_6 fl_X2_9 (f0) rfl ?_
  refine g_iconst (v := (nI 0)) hX dX2_copyFrom_9 (by decide) ?_
  refine g_bipush (v := (nI 20)) hX dX2_copyFrom_10 (by decide) ?_
  refine g_copyi hX dX2_copyFrom_12 ml_X2_36 w_acN w_acS w_acI (gwd) (fwd) (20) rfl (by omega) (by omega) (by omega) (Nat.le_of_ble_eq_true rfl) (by decide +kernel) ?_
  refine g_ext (fun k hk => gn_cpy hk) ?_
  refine g_aload_n hX dX2_copyFrom_15 rfl rfl ?_
  refine g_getf hX dX2_copyFrom_16 fl_X2_15 ((hs_ne (by omega)).trans (g0)) rfl ?_
  refine g_iconst (v := (nI 0)) hX dX2_copyFrom_19 (by decide) ?_
  refine g_aload_n hX dX2_copyFrom_20 rfl rfl ?_
  refine g_getf hX dX2_copyFrom_21 fl_X2_15 ((hs_ne (by omega)).trans (f0)) rfl ?_
  refine g_iconst (v := (nI 0)) hX dX2_copyFrom_24 (by decide) ?_
  refine g_bipush (v := (nI 20)) hX dX2_copyFrom_25 (by decide) ?_
  refine g_copyi hX dX2_copyFrom_27 ml_X2_36 w_acN w_acS w_acI ((hs_ne (by omega)).trans (gsk)) ((hs_ne (by omega)).trans (fsk)) (20) rfl (by omega) (by omega) (by omega) (Nat.le_of_ble_eq_true rfl) (by decide +kernel) ?_
  refine g_ext (fun k hk => gn_cpy hk) ?_
  refine g_aload_n hX dX2_copyFrom_30 rfl rfl ?_
  refine g_getf hX dX2_copyFrom_31 fl_X2_18 ((hs_ne (by omega)).trans ((hs_ne (by omega)).trans (g0))) rfl ?_
  refine g_iconst (v := (nI 0)) hX dX2_copyFrom_34 (by decide) ?_
  refine g_aload_n hX dX2_copyFrom_35 rfl rfl ?_
  refine g_getf hX dX2_copyFrom_36 fl_X2_18 ((hs_ne (by omega)).trans ((hs_ne (by omega)).trans (f0))) rfl ?_
  refine g_iconst (v := (nI 0)) hX dX2_copyFrom_39 (by decide) ?_
  refine g_bipush (v := (nI 20)) hX dX2_copyFrom_40 (by decide) ?_
  refine g_copyi hX dX2_copyFrom_42 ml_X2_36 w_acN w_acS w_acI ((hs_ne (by omega)).trans ((hs_ne (by omega)).trans (gvt))) ((hs_ne (by omega)).trans ((hs_ne (by omega)).trans (fvt))) (20) rfl (by omega) (by omega) (by omega) (Nat.le_of_ble_eq_true rfl) (by decide +kernel) ?_
  refine g_ext (fun k hk => gn_cpy hk) ?_
  refine g_aload_n hX dX2_copyFrom_45 rfl rfl ?_
  refine g_getf hX dX2_copyFrom_46 fl_X2_21 ((hs_ne (by omega)).trans ((hs_ne (by omega)).trans ((hs_ne (by omega)).trans (g0)))) rfl ?_
  refine g_iconst (v := (nI 0)) hX dX2_copyFrom_49 (by decide) ?_
  refine g_aload_n hX dX2_copyFrom_50 rfl rfl ?_
  refine g_getf hX dX2_copyFrom_51 fl_X2_21 ((hs_ne (by omega)).trans ((hs_ne (by omega)).trans ((hs_ne (by omega)).trans (f0)))) rfl ?_
  refine g_iconst (v := (nI 0)) hX dX2_copyFrom_54 (by decide) ?_
  refine g_bipush (v := (nI 20)) hX dX2_copyFrom_55 (by decide) ?_
  refine g_copyi hX dX2_copyFrom_57 ml_X2_36 w_acN w_acS w_acI ((hs_ne (by omega)).trans ((hs_ne (by omega)).trans ((hs_ne (by omega)).trans (gti)))) ((hs_ne (by omega)).trans ((hs_ne (by omega)).trans ((hs_ne (by omega)).trans (fti)))) (20) rfl (by omega) (by omega) (by omega) (Nat.le_of_ble_eq_true rfl) (by decide +kernel) ?_
  refine g_ext (fun k hk => gn_cpy hk) ?_
  refine g_aload_n hX dX2_copyFrom_60 rfl rfl ?_
  refine g_getf hX dX2_copyFrom_61 fl_X2_24 ((hs_ne (by omega)).trans ((hs_ne (by omega)).trans ((hs_ne (by omega)).trans ((hs_ne (by omega)).trans (g0))))) rfl ?_
  refine g_iconst (v := (nI 0)) hX dX2_copyFrom_64 (by decide) ?_
  refine g_aload_n hX dX2_copyFrom_65 rfl rfl ?_
  refine g_getf hX dX2_copyFrom_66 fl_X2_24 ((hs_ne (by omega)).trans ((hs_ne (by omega)).trans ((hs_ne (by omega)).trans ((hs_ne (by omega)).trans (f0))))) rfl ?_
  refine g_iconst (v := (nI 0)) hX dX2_copyFrom_69 (by decide) ?_
  refine g_bipush (v := (nI 20)) hX dX2_copyFrom_70 (by decide) ?_
  refine g_copyi hX dX2_copyFrom_72 ml_X2_36 w_acN w_acS w_acI ((hs_ne (by omega)).trans ((hs_ne (by omega)).trans ((hs_ne (by omega)).trans ((hs_ne (by omega)).trans (gfa))))) ((hs_ne (by omega)).trans ((hs_ne (by omega)).trans ((hs_ne (by omega)).trans ((hs_ne (by omega)).trans (ffa))))) (20) rfl (by omega) (by omega) (by omega) (Nat.le_of_ble_eq_true rfl) (by decide +kernel) ?_
  refine g_ext (fun k hk => gn_cpy hk) ?_
  refine g_aload_n hX dX2_copyFrom_75 rfl rfl ?_
  refine g_getf hX dX2_copyFrom_76 fl_X2_30 ((hs_ne (by omega)).trans ((hs_ne (by omega)).trans ((hs_ne (by omega)).trans ((hs_ne (by omega)).trans ((hs_ne (by omega)).trans (g0)))))) rfl ?_
  refine g_iconst (v := (nI 0)) hX dX2_copyFrom_79 (by decide) ?_
  refine g_aload_n hX dX2_copyFrom_80 rfl rfl ?_
  refine g_getf hX dX2_copyFrom_81 fl_X2_30 ((hs_ne (by omega)).trans ((hs_ne (by omega)).trans ((hs_ne (by omega)).trans ((hs_ne (by omega)).trans ((hs_ne (by omega)).trans (f0)))))) rfl ?_
  refine g_iconst (v := (nI 0)) hX dX2_copyFrom_84 (by decide) ?_
  refine g_bipush (v := (nI 20)) hX dX2_copyFrom_85 (by decide) ?_
  refine g_copyi hX dX2_copyFrom_87 ml_X2_36 w_acN w_acS w_acI ((hs_ne (by omega)).trans ((hs_ne (by omega)).trans ((hs_ne (by omega)).trans ((hs_ne (by omega)).trans ((hs_ne (by omega)).trans (gst)))))) ((hs_ne (by omega)).trans ((hs_ne (by omega)).trans ((hs_ne (by omega)).trans ((hs_ne (by omega)).trans ((hs_ne (by omega)).trans (fst)))))) (20) rfl (by omega) (by omega) (by omega) (Nat.le_of_ble_eq_true rfl) (by decide +kernel) ?_
  refine g_ext (fun k hk => gn_cpy hk) ?_
  refine g_aload_n hX dX2_copyFrom_90 rfl rfl ?_
  refine g_getf hX dX2_copyFrom_91 fl_X2_33 ((hs_ne (by omega)).trans ((hs_ne (by omega)).trans ((hs_ne (by omega)).trans ((hs_ne (by omega)).trans ((hs_ne (by omega)).trans ((hs_ne (by omega)).trans (g0))))))) rfl ?_
  refine g_iconst (v := (nI 0)) hX dX2_copyFrom_94 (by decide) ?_
  refine g_aload_n hX dX2_copyFrom_95 rfl rfl ?_
  refine g_getf hX dX2_copyFrom_96 fl_X2_33 ((hs_ne (by omega)).trans ((hs_ne (by omega)).trans ((hs_ne (by omega)).trans ((hs_ne (by omega)).trans ((hs_ne (by omega)).trans ((hs_ne (by omega)).trans (f0))))))) rfl ?_
  refine g_iconst (v := (nI 0)) hX dX2_copyFrom_99 (by decide) ?_
  refine g_bipush (v := (nI 18)) hX dX2_copyFrom_100 (by decide) ?_
  refine g_copyi hX dX2_copyFrom_102 ml_X2_36 w_acN w_acS w_acI ((hs_ne (by omega)).trans ((hs_ne (by omega)).trans ((hs_ne (by omega)).trans ((hs_ne (by omega)).trans ((hs_ne (by omega)).trans ((hs_ne (by omega)).trans (gws))))))) ((hs_ne (by omega)).trans ((hs_ne (by omega)).trans ((hs_ne (by omega)).trans ((hs_ne (by omega)).trans ((hs_ne (by omega)).trans ((hs_ne (by omega)).trans (fws))))))) (18) rfl (by omega) (by omega) (by omega) (Nat.le_of_ble_eq_true rfl) (by decide +kernel) ?_
  refine g_ext (fun k hk => gn_cpy hk) ?_
  refine g_aload_n hX dX2_copyFrom_105 rfl rfl ?_
  refine g_aload_n hX dX2_copyFrom_106 rfl rfl ?_
  refine g_getf hX dX2_copyFrom_107 fl_X2_42 ((hs_ne (by omega)).trans ((hs_ne (by omega)).trans ((hs_ne (by omega)).trans ((hs_ne (by omega)).trans ((hs_ne (by omega)).trans ((hs_ne (by omega)).trans ((hs_ne (by omega)).trans (g0)))))))) rfl ?_
  refine g_putI hX dX2_copyFrom_110 fl_X2_42 ((hs_ne (by omega)).trans ((hs_ne (by omega)).trans ((hs_ne (by omega)).trans ((hs_ne (by omega)).trans ((hs_ne (by omega)).trans ((hs_ne (by omega)).trans ((hs_ne (by omega)).trans (f0)))))))) (Nat.le_of_ble_eq_true rfl) ?_
  show GW X 113 [some (.ref t), some (.ref o)] [] (hs (hs (hs (hs (hs (hs (hs (hs h (t + 1) (aI 20 owd)) (t + 2) (aI 20 osk)) (t + 3) (aI 20 ovt)) (t + 4) (aI 20 oti)) (t + 5) (aI 20 ofa)) (t + 7) (aI 20 ost)) (t + 8) (aI 18 ows)) t (oB 2 [.ref (t + 1), .ref (t + 2), .ref (t + 3), .ref (t + 4), .ref (t + 5), .ref (t + 6), .ref (t + 7), .ref (t + 8), .int (nI orc), .int dy])) n 0 0
  refine g_aload_n hX dX2_copyFrom_113 rfl rfl ?_
  refine g_aload_n hX dX2_copyFrom_114 rfl rfl ?_
  refine g_getf hX dX2_copyFrom_115 fl_X2_46 ((hs_ne (by omega)).trans ((hs_ne (by omega)).trans ((hs_ne (by omega)).trans ((hs_ne (by omega)).trans ((hs_ne (by omega)).trans ((hs_ne (by omega)).trans ((hs_ne (by omega)).trans ((hs_ne (by omega)).trans (g0))))))))) rfl ?_
  refine g_putI hX dX2_copyFrom_118 fl_X2_46 (hs_eq _ _ _) (Nat.le_of_ble_eq_true rfl) ?_
  refine g_cg rfl hs_hs ?_
  show GW X 121 [some (.ref t), some (.ref o)] [] (hs (hs (hs (hs (hs (hs (hs (hs h (t + 1) (aI 20 owd)) (t + 2) (aI 20 osk)) (t + 3) (aI 20 ovt)) (t + 4) (aI 20 oti)) (t + 5) (aI 20 ofa)) (t + 7) (aI 20 ost)) (t + 8) (aI 18 ows)) t (oB 2 [.ref (t + 1), .ref (t + 2), .ref (t + 3), .ref (t + 4), .ref (t + 5), .ref (t + 6), .ref (t + 7), .ref (t + 8), .int (nI orc), .int ody])) n 0 0
  refine g_return hX hr dX2_copyFrom_121 (Nat.le_refl _) (Nat.le_refl _)  ?_
  exact ⟨rfl, rfl, rfl⟩
set_option maxRecDepth 20000 in
theorem kX2_seatedUnlike {l : Launch} {K : gw_K} (hst : l.stackTraces = false) {t o rc orc n : Nat} {dy ody : Int32} {h : gw_H} {st ost : Nat → Int32} (f0 : h t = (oB 2 [.ref (t + 1), .ref (t + 2), .ref (t + 3), .ref (t + 4), .ref (t + 5), .ref (t + 6), .ref (t + 7), .ref (t + 8), .int (nI rc), .int dy])) (fst : h (t + 7) = (aI 20 st)) (g0 : h o = (oB 2 [.ref (o + 1), .ref (o + 2), .ref (o + 3), .ref (o + 4), .ref (o + 5), .ref (o + 6), .ref (o + 7), .ref (o + 8), .int (nI orc), .int ody])) (gst : h (o + 7) = (aI 20 ost)) (hrc : rc ≤ 20) : Ctr l K mX2_seatedUnlike [.ref t, .ref o] h n 0 0 (PQ (some (.int (movedI st ost rc))) h n) (PX0) := by
  refine Ctr.of hst pn_X2_seatedUnlike (Nat.le_of_ble_eq_true rfl) (fun X hX hr hE => ?_)
  have hX : FX l K X cX2_seatedUnlike RX2 0 0 0 0 := hX
  show GW X 0 [some (.ref t), some (.ref o), none, none] [] h n 0 0
  refine g_iconst (v := (nI 0)) hX dX2_seatedUnlike_0 (by decide) ?_
  refine g_istore_n (i := 2) hX dX2_seatedUnlike_1 rfl (Nat.le_of_ble_eq_true rfl) rfl ?_
  refine g_iconst (v := (nI 0)) hX dX2_seatedUnlike_2 (by decide) ?_
  refine g_istore_n (i := 3) hX dX2_seatedUnlike_3 rfl (Nat.le_of_ble_eq_true rfl) rfl ?_
  refine g_for (P := fun (i : Nat) (s : Int32) => GW X 4 [some (.ref t), some (.ref o), some (.int s), some (.int (nI i))] [] h n 0 0) (step := fun i s => if st i = ost i then s else s + 1) rc (nI 0) ?_ ?_
  · intro i1 s2 hi1 es2 ihi1
    have ihi1 : GW X 4 [some (.ref t), some (.ref o), some (.int (if st i1 = ost i1 then s2 else s2 + 1)), some (.int (nI (i1 + 1)))] [] h n 0 0 := ihi1
    refine g_iload_n hX dX2_seatedUnlike_4 rfl rfl ?_
    refine g_aload_n hX dX2_seatedUnlike_5 rfl rfl ?_
    refine g_getf hX dX2_seatedUnlike_6 fl_X2_42 (f0) rfl ?_
    refine g_icmp_geN (tgt := 36) hX dX2_seatedUnlike_9 (by decide) (by omega) (fun c3 => absurd c3 (by omega)) (fun c3 => ?_)
    refine g_aload_n hX dX2_seatedUnlike_12 rfl rfl ?_
    refine g_getf hX dX2_seatedUnlike_13 fl_X2_30 (f0) rfl ?_
    refine g_iload_n hX dX2_seatedUnlike_16 rfl rfl ?_
    refine g_iaload hX dX2_seatedUnlike_17 (fst) (i1) (by omega) rfl (by omega) ?_
    refine g_aload_n hX dX2_seatedUnlike_18 rfl rfl ?_
    refine g_getf hX dX2_seatedUnlike_19 fl_X2_30 (g0) rfl ?_
    refine g_iload_n hX dX2_seatedUnlike_22 rfl rfl ?_
    refine g_iaload hX dX2_seatedUnlike_23 (gst) (i1) (by omega) rfl (by omega) ?_
    refine g_icmp_eq (tgt := 30) hX dX2_seatedUnlike_24 (by decide) (fun c4 => ?_) (fun c4 => ?_)
    · refine g_iinc (v := (nI (i1 + 1))) hX dX2_seatedUnlike_30 rfl rfl (gn_inc _ _) ?_
      refine g_goto (tgt := 4) hX dX2_seatedUnlike_33 (by decide) ?_
      refine g_cv ihi1 (by simp [c3, c4]) rfl
    · refine g_iinc (v := (s2 + 1)) hX dX2_seatedUnlike_27 rfl rfl (by rfl) ?_
      refine g_iinc (v := (nI (i1 + 1))) hX dX2_seatedUnlike_30 rfl rfl (gn_inc _ _) ?_
      refine g_goto (tgt := 4) hX dX2_seatedUnlike_33 (by decide) ?_
      refine g_cv ihi1 (by simp [c3, c4]) rfl
  · refine g_iload_n hX dX2_seatedUnlike_4 rfl rfl ?_
    refine g_aload_n hX dX2_seatedUnlike_5 rfl rfl ?_
    refine g_getf hX dX2_seatedUnlike_6 fl_X2_42 (f0) rfl ?_
    refine g_icmp_geN (tgt := 36) hX dX2_seatedUnlike_9 (by decide) (by omega) (fun c5 => ?_) (fun c5 => absurd c5 (by omega))
    refine g_iload_n hX dX2_seatedUnlike_36 rfl rfl ?_
    refine g_ireturn hX hr dX2_seatedUnlike_37 (Nat.le_refl _) (Nat.le_refl _)  ?_
    exact ⟨rfl, rfl, rfl⟩
