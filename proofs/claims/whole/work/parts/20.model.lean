set_option maxRecDepth 20000 in
theorem kX4_ringerOf {l : Launch} {K : gw_K} (hst : l.stackTraces = false) {n : Nat} {h : gw_H} {t : Nat} {dy : Int32} {rc mc : Nat} {thr tch frs len : Int32} {st : Nat → Int32} {x : Int32} (m0 : h 40 = (oB 5 [.int thr, .int (nI rc), .ref 41, .ref 42, .ref 43, .int (nI mc), .ref 44, .ref 45, .int tch, .int frs, .ref 46, .ref 47, .int len, .ref 48, .ref 49, .ref 50, .ref 51, .ref 56])) (s0 : h t = (oB 4 [.int dy, .ref (t + 1), .ref (t + 2), .ref (t + 3), .ref (t + 4), .ref 40])) (sst : h (t + 4) = (aI 20 st)) (hrc : rc ≤ 20) : Ctr l K mX4_ringerOf [.ref t, .int x] h n 0 0 (PQ (some (.int (atI st rc x))) h n) (PX0) := by
  refine Ctr.of hst pn_X4_ringerOf (Nat.le_of_ble_eq_true rfl) (fun X hX hr hE => ?_)
  have hX : FX l K X cX4_ringerOf RX4 0 0 0 0 := hX
  show GW X 0 [some (.ref t), some (.int x), none] [] h n 0 0
  refine g_iconst (v := (nI 0)) hX dX4_ringerOf_0 (by decide) ?_
  refine g_istore_n (i := 2) hX dX4_ringerOf_1 rfl (Nat.le_of_ble_eq_true rfl) rfl ?_
  refine g_loop (P := fun (i : Nat) => GW X 2 [some (.ref t), some (.int x), some (.int (nI i))] [] h n 0 0) (fun i => atI st rc x = ffi (fun r => decide (st r = x)) i (rc - i)) rc rfl ?_ ?_
  · intro i1 hi1 Ii1 ihi1
    have ihi1 : atI st rc x = ffi (fun r => decide (st r = x)) (i1 + 1) (rc - (i1 + 1)) → GW X 2 [some (.ref t), some (.int x), some (.int (nI (i1 + 1)))] [] h n 0 0 := ihi1
    refine g_iload_n hX dX4_ringerOf_2 rfl rfl ?_
    refine g_aload_n hX dX4_ringerOf_3 rfl rfl ?_
    refine g_getf hX dX4_ringerOf_4 fl_X4_3 (s0) rfl ?_
    refine g_getf hX dX4_ringerOf_7 fl_X4_42 (m0) rfl ?_
    refine g_icmp_geN (tgt := 31) hX dX4_ringerOf_10 (by decide) (by omega) (fun c2 => absurd c2 (by omega)) (fun c2 => ?_)
    refine g_aload_n hX dX4_ringerOf_13 rfl rfl ?_
    refine g_getf hX dX4_ringerOf_14 fl_X4_25 (s0) rfl ?_
    refine g_iload_n hX dX4_ringerOf_17 rfl rfl ?_
    refine g_iaload hX dX4_ringerOf_18 (sst) (i1) (by omega) rfl (by omega) ?_
    refine g_iload_n hX dX4_ringerOf_19 rfl rfl ?_
    refine g_icmp_ne (tgt := 25) hX dX4_ringerOf_20 (by decide) (fun c3 => ?_) (fun c3 => ?_)
    · refine g_iinc (v := (nI (i1 + 1))) hX dX4_ringerOf_25 rfl rfl (gn_inc _ _) ?_
      refine g_goto (tgt := 2) hX dX4_ringerOf_28 (by decide) ?_
      exact ihi1 (by rw [Ii1, ffi_step hi1, if_neg (by simp [c2, c3])])
    · refine g_iload_n hX dX4_ringerOf_23 rfl rfl ?_
      refine g_ireturn hX hr dX4_ringerOf_24 (Nat.le_refl _) (Nat.le_refl _)  ?_
      exact ⟨by rw [Ii1, ffi_step hi1, if_pos (by simp [c2, c3])], rfl, rfl⟩
  · intro IN4
    refine g_iload_n hX dX4_ringerOf_2 rfl rfl ?_
    refine g_aload_n hX dX4_ringerOf_3 rfl rfl ?_
    refine g_getf hX dX4_ringerOf_4 fl_X4_3 (s0) rfl ?_
    refine g_getf hX dX4_ringerOf_7 fl_X4_42 (m0) rfl ?_
    refine g_icmp_geN (tgt := 31) hX dX4_ringerOf_10 (by decide) (by omega) (fun c5 => ?_) (fun c5 => absurd c5 (by omega))
    refine g_iconst (v := (-1)) hX dX4_ringerOf_31 (by decide) ?_
    refine g_ireturn hX hr dX4_ringerOf_32 (Nat.le_refl _) (Nat.le_refl _)  ?_
    exact ⟨by rw [IN4, Nat.sub_self]; rfl, rfl, rfl⟩
set_option maxRecDepth 20000 in
theorem kX4_manned {l : Launch} {K : gw_K} (hst : l.stackTraces = false) {n : Nat} {h : gw_H} {t : Nat} {dy : Int32} {rc mc : Nat} {thr tch frs len : Int32} {st : Nat → Int32} {b : Nat} (m0 : h 40 = (oB 5 [.int thr, .int (nI rc), .ref 41, .ref 42, .ref 43, .int (nI mc), .ref 44, .ref 45, .int tch, .int frs, .ref 46, .ref 47, .int len, .ref 48, .ref 49, .ref 50, .ref 51, .ref 56])) (s0 : h t = (oB 4 [.int dy, .ref (t + 1), .ref (t + 2), .ref (t + 3), .ref (t + 4), .ref 40])) (sst : h (t + 4) = (aI 20 st)) (hrc : rc ≤ 20) (hb3 : b < 3) (hso : ∀ r, r < rc → seatOK (st r)) : Ctr l K mX4_manned [.ref t, .int (nI b)] h n 0 0 (PQ (some (.int (cntI st rc (nI b)))) h n) (PX0) := by
  refine Ctr.of hst pn_X4_manned (Nat.le_of_ble_eq_true rfl) (fun X hX hr hE => ?_)
  have hX : FX l K X cX4_manned RX4 0 0 0 0 := hX
  show GW X 0 [some (.ref t), some (.int (nI b)), none, none] [] h n 0 0
  refine g_iconst (v := (nI 0)) hX dX4_manned_0 (by decide) ?_
  refine g_istore_n (i := 2) hX dX4_manned_1 rfl (Nat.le_of_ble_eq_true rfl) rfl ?_
  refine g_iconst (v := (nI 0)) hX dX4_manned_2 (by decide) ?_
  refine g_istore_n (i := 3) hX dX4_manned_3 rfl (Nat.le_of_ble_eq_true rfl) rfl ?_
  refine g_for (P := fun (i : Nat) (s : Int32) => GW X 4 [some (.ref t), some (.int (nI b)), some (.int s), some (.int (nI i))] [] h n 0 0) (step := fun i s => if bandI (st i) = nI b then s + 1 else s) rc (nI 0) ?_ ?_
  · intro i1 s2 hi1 es2 ihi1
    have ihi1 : GW X 4 [some (.ref t), some (.int (nI b)), some (.int (if bandI (st i1) = nI b then s2 + 1 else s2)), some (.int (nI (i1 + 1)))] [] h n 0 0 := ihi1
    have hb9 := so_band (hso i1 hi1) hb3 (b := b)
    have hn9 := so_neg (hso i1 hi1)
    refine g_iload_n hX dX4_manned_4 rfl rfl ?_
    refine g_aload_n hX dX4_manned_5 rfl rfl ?_
    refine g_getf hX dX4_manned_6 fl_X4_3 (s0) rfl ?_
    refine g_getf hX dX4_manned_9 fl_X4_42 (m0) rfl ?_
    refine g_icmp_geN (tgt := 51) hX dX4_manned_12 (by decide) (by omega) (fun c3 => absurd c3 (by omega)) (fun c3 => ?_)
    refine g_iload_n hX dX4_manned_15 rfl rfl ?_
    refine g_aload_n hX dX4_manned_16 rfl rfl ?_
    refine g_getf hX dX4_manned_17 fl_X4_25 (s0) rfl ?_
    refine g_iload_n hX dX4_manned_20 rfl rfl ?_
    refine g_iaload hX dX4_manned_21 (sst) (i1) (by omega) rfl (by omega) ?_
    refine g_if_lt (tgt := 42) hX dX4_manned_22 (by decide) (fun c4 => ?_) (fun c4 => ?_)
    · refine g_iconst (v := (nI 0)) hX dX4_manned_42 (by decide) ?_
      refine g_iadd hX dX4_manned_43 ?_
      refine g_istore_n (i := 2) hX dX4_manned_44 rfl (Nat.le_of_ble_eq_true rfl) rfl ?_
      refine g_iinc (v := (nI (i1 + 1))) hX dX4_manned_45 rfl rfl (gn_inc _ _) ?_
      refine g_goto (tgt := 4) hX dX4_manned_48 (by decide) ?_
      refine g_cv ihi1 (by simp [hb9, gn_a0, gn_one, c3, c4]) rfl
    · refine g_aload_n hX dX4_manned_25 rfl rfl ?_
      refine g_getf hX dX4_manned_26 fl_X4_25 (s0) rfl ?_
      refine g_iload_n hX dX4_manned_29 rfl rfl ?_
      refine g_iaload hX dX4_manned_30 (sst) (i1) (by omega) rfl (by omega) ?_
      refine g_bipush (v := (nI 6)) hX dX4_manned_31 (by decide) ?_
      refine g_idiv hX dX4_manned_33 (by decide) ?_
      refine g_iload_n hX dX4_manned_34 rfl rfl ?_
      refine g_icmp_ne (tgt := 42) hX dX4_manned_35 (by decide) (fun c5 => ?_) (fun c5 => ?_)
      · refine g_iconst (v := (nI 0)) hX dX4_manned_42 (by decide) ?_
        refine g_iadd hX dX4_manned_43 ?_
        refine g_istore_n (i := 2) hX dX4_manned_44 rfl (Nat.le_of_ble_eq_true rfl) rfl ?_
        refine g_iinc (v := (nI (i1 + 1))) hX dX4_manned_45 rfl rfl (gn_inc _ _) ?_
        refine g_goto (tgt := 4) hX dX4_manned_48 (by decide) ?_
        refine g_cv ihi1 (by simp [hb9, gn_a0, gn_one, c3, c4, c5, gn_ile.mp c4]) rfl
      · refine g_iconst (v := (nI 1)) hX dX4_manned_38 (by decide) ?_
        refine g_goto (tgt := 43) hX dX4_manned_39 (by decide) ?_
        refine g_iadd hX dX4_manned_43 ?_
        refine g_istore_n (i := 2) hX dX4_manned_44 rfl (Nat.le_of_ble_eq_true rfl) rfl ?_
        refine g_iinc (v := (nI (i1 + 1))) hX dX4_manned_45 rfl rfl (gn_inc _ _) ?_
        refine g_goto (tgt := 4) hX dX4_manned_48 (by decide) ?_
        refine g_cv ihi1 (by simp [hb9, gn_a0, gn_one, c3, c4, c5, gn_ile.mp c4]) rfl
  · refine g_iload_n hX dX4_manned_4 rfl rfl ?_
    refine g_aload_n hX dX4_manned_5 rfl rfl ?_
    refine g_getf hX dX4_manned_6 fl_X4_3 (s0) rfl ?_
    refine g_getf hX dX4_manned_9 fl_X4_42 (m0) rfl ?_
    refine g_icmp_geN (tgt := 51) hX dX4_manned_12 (by decide) (by omega) (fun c6 => ?_) (fun c6 => absurd c6 (by omega))
    refine g_iload_n hX dX4_manned_51 rfl rfl ?_
    refine g_ireturn hX hr dX4_manned_52 (Nat.le_refl _) (Nat.le_refl _)  ?_
    exact ⟨rfl, rfl, rfl⟩
set_option maxRecDepth 20000 in
theorem kX4_allVotes {l : Launch} {K : gw_K} (hst : l.stackTraces = false) {n : Nat} {h : gw_H} {t : Nat} {dy : Int32} {rc mc : Nat} {thr tch frs len : Int32} {vt : Nat → Int32}  (m0 : h 40 = (oB 5 [.int thr, .int (nI rc), .ref 41, .ref 42, .ref 43, .int (nI mc), .ref 44, .ref 45, .int tch, .int frs, .ref 46, .ref 47, .int len, .ref 48, .ref 49, .ref 50, .ref 51, .ref 56])) (s0 : h t = (oB 4 [.int dy, .ref (t + 1), .ref (t + 2), .ref (t + 3), .ref (t + 4), .ref 40])) (svt : h (t + 1) = (aI 20 vt)) (hrc : rc ≤ 20) : Ctr l K mX4_allVotes [.ref t] h n 0 0 (PQ (some (.int (sumI vt rc))) h n) (PX0) := by
  refine Ctr.of hst pn_X4_allVotes (Nat.le_of_ble_eq_true rfl) (fun X hX hr hE => ?_)
  have hX : FX l K X cX4_allVotes RX4 0 0 0 0 := hX
  show GW X 0 [some (.ref t), none, none] [] h n 0 0
  refine g_iconst (v := (nI 0)) hX dX4_allVotes_0 (by decide) ?_
  refine g_istore_n (i := 1) hX dX4_allVotes_1 rfl (Nat.le_of_ble_eq_true rfl) rfl ?_
  refine g_iconst (v := (nI 0)) hX dX4_allVotes_2 (by decide) ?_
  refine g_istore_n (i := 2) hX dX4_allVotes_3 rfl (Nat.le_of_ble_eq_true rfl) rfl ?_
  refine g_for (P := fun (i : Nat) (s : Int32) => GW X 4 [some (.ref t), some (.int s), some (.int (nI i))] [] h n 0 0) (step := fun i s => s + vt i) rc (nI 0) ?_ ?_
  · intro i1 s2 hi1 es2 ihi1
    have ihi1 : GW X 4 [some (.ref t), some (.int (s2 + vt i1)), some (.int (nI (i1 + 1)))] [] h n 0 0 := ihi1
    refine g_iload_n hX dX4_allVotes_4 rfl rfl ?_
    refine g_aload_n hX dX4_allVotes_5 rfl rfl ?_
    refine g_getf hX dX4_allVotes_6 fl_X4_3 (s0) rfl ?_
    refine g_getf hX dX4_allVotes_9 fl_X4_42 (m0) rfl ?_
    refine g_icmp_geN (tgt := 30) hX dX4_allVotes_12 (by decide) (by omega) (fun c3 => absurd c3 (by omega)) (fun c3 => ?_)
    refine g_iload_n hX dX4_allVotes_15 rfl rfl ?_
    refine g_aload_n hX dX4_allVotes_16 rfl rfl ?_
    refine g_getf hX dX4_allVotes_17 fl_X4_15 (s0) rfl ?_
    refine g_iload_n hX dX4_allVotes_20 rfl rfl ?_
    refine g_iaload hX dX4_allVotes_21 (svt) (i1) (by omega) rfl (by omega) ?_
    refine g_iadd hX dX4_allVotes_22 ?_
    refine g_istore_n (i := 1) hX dX4_allVotes_23 rfl (Nat.le_of_ble_eq_true rfl) rfl ?_
    refine g_iinc (v := (nI (i1 + 1))) hX dX4_allVotes_24 rfl rfl (gn_inc _ _) ?_
    refine g_goto (tgt := 4) hX dX4_allVotes_27 (by decide) ?_
    refine g_cv ihi1 (by simp [c3]) rfl
  · refine g_iload_n hX dX4_allVotes_4 rfl rfl ?_
    refine g_aload_n hX dX4_allVotes_5 rfl rfl ?_
    refine g_getf hX dX4_allVotes_6 fl_X4_3 (s0) rfl ?_
    refine g_getf hX dX4_allVotes_9 fl_X4_42 (m0) rfl ?_
    refine g_icmp_geN (tgt := 30) hX dX4_allVotes_12 (by decide) (by omega) (fun c4 => ?_) (fun c4 => absurd c4 (by omega))
    refine g_iload_n hX dX4_allVotes_30 rfl rfl ?_
    refine g_ireturn hX hr dX4_allVotes_31 (Nat.le_refl _) (Nat.le_refl _)  ?_
    exact ⟨rfl, rfl, rfl⟩
set_option maxRecDepth 20000 in
theorem kX4_canRing {l : Launch} {K : gw_K} (hst : l.stackTraces = false) {n : Nat} {h : gw_H} {t : Nat} {dy : Int32} {rc mc : Nat} {thr tch frs len : Int32} {mn : Nat → Nat} {ti st : Nat → Int32} {b k : Nat} (m0 : h 40 = (oB 5 [.int thr, .int (nI rc), .ref 41, .ref 42, .ref 43, .int (nI mc), .ref 44, .ref 45, .int tch, .int frs, .ref 46, .ref 47, .int len, .ref 48, .ref 49, .ref 50, .ref 51, .ref 56])) (mmn : h 44 = (aI 5 (fun k => nI (mn k)))) (s0 : h t = (oB 4 [.int dy, .ref (t + 1), .ref (t + 2), .ref (t + 3), .ref (t + 4), .ref 40])) (sti : h (t + 2) = (aI 20 ti)) (sst : h (t + 4) = (aI 20 st)) (hrc : rc ≤ 20) (hb3 : b < 3) (hk5 : k < 5) (hmn : mn k ≤ 12) (hsi : seatI st rc) : Ctr l K mX4_canRing [.ref t, .int (nI b), .int (nI k)] h n 0 0 (PQ (some (.int (if 0 < mn k ∧ freshI st ti rc (nI b) = nI 6 then nI 1 else nI 0))) h n) (PX0) := by
  refine Ctr.of hst pn_X4_canRing (Nat.le_of_ble_eq_true rfl) (fun X hX hr hE => ?_)
  have hX : FX l K X cX4_canRing RX4 1 23 0 0 := hX
  show GW X 0 [some (.ref t), some (.int (nI b)), some (.int (nI k)), none] [] h n 0 0
  have hso : ∀ r, r < rc → seatOK (st r) := fun r hr => (hsi r hr).1
  refine g_iconst (v := (nI 0)) hX dX4_canRing_0 (by decide) ?_
  refine g_istore_n (i := 3) hX dX4_canRing_1 rfl (Nat.le_of_ble_eq_true rfl) rfl ?_
  refine g_loop (P := fun (i : Nat) => GW X 2 [some (.ref t), some (.int (nI b)), some (.int (nI k)), some (.int (nI i))] [] h n 0 0) (fun i => (∀ j, j < i → bandI (st j) = nI b → ti j < nI 15)) rc (fun j hj => absurd hj (by omega)) ?_ ?_
  · intro i1 hi1 Ii1 ihi1
    have ihi1 : (∀ j, j < (i1 + 1) → bandI (st j) = nI b → ti j < nI 15) → GW X 2 [some (.ref t), some (.int (nI b)), some (.int (nI k)), some (.int (nI (i1 + 1)))] [] h n 0 0 := ihi1
    refine g_iload_n hX dX4_canRing_2 rfl rfl ?_
    refine g_aload_n hX dX4_canRing_3 rfl rfl ?_
    refine g_getf hX dX4_canRing_4 fl_X4_3 (s0) rfl ?_
    refine g_getf hX dX4_canRing_7 fl_X4_42 (m0) rfl ?_
    refine g_icmp_geN (tgt := 54) hX dX4_canRing_10 (by decide) (by omega) (fun c2 => absurd c2 (by omega)) (fun c2 => ?_)
    refine g_aload_n hX dX4_canRing_13 rfl rfl ?_
    refine g_getf hX dX4_canRing_14 fl_X4_25 (s0) rfl ?_
    refine g_iload_n hX dX4_canRing_17 rfl rfl ?_
    refine g_iaload hX dX4_canRing_18 (sst) (i1) (by omega) rfl (by omega) ?_
    refine g_if_lt (tgt := 48) hX dX4_canRing_19 (by decide) (fun c3 => ?_) (fun c3 => ?_)
    · refine g_iinc (v := (nI (i1 + 1))) hX dX4_canRing_48 rfl rfl (gn_inc _ _) ?_
      refine g_goto (tgt := 2) hX dX4_canRing_51 (by decide) ?_
      exact ihi1 (fun j hj hbj => by
  by_cases e : j = i1
  · subst e
    have hb9 := so_band (hso _ hi1) hb3 (b := b)
    exact absurd (hb9.mp hbj) (by simp [c2, c3])
  · exact Ii1 j (by omega) hbj)
    · refine g_aload_n hX dX4_canRing_22 rfl rfl ?_
      refine g_getf hX dX4_canRing_23 fl_X4_25 (s0) rfl ?_
      refine g_iload_n hX dX4_canRing_26 rfl rfl ?_
      refine g_iaload hX dX4_canRing_27 (sst) (i1) (by omega) rfl (by omega) ?_
      refine g_bipush (v := (nI 6)) hX dX4_canRing_28 (by decide) ?_
      refine g_idiv hX dX4_canRing_30 (by decide) ?_
      refine g_iload_n hX dX4_canRing_31 rfl rfl ?_
      refine g_icmp_ne (tgt := 48) hX dX4_canRing_32 (by decide) (fun c4 => ?_) (fun c4 => ?_)
      · refine g_iinc (v := (nI (i1 + 1))) hX dX4_canRing_48 rfl rfl (gn_inc _ _) ?_
        refine g_goto (tgt := 2) hX dX4_canRing_51 (by decide) ?_
        exact ihi1 (fun j hj hbj => by
  by_cases e : j = i1
  · subst e
    have hb9 := so_band (hso _ hi1) hb3 (b := b)
    exact absurd (hb9.mp hbj) (by simp [c2, c3, c4, gn_ile.mp c3])
  · exact Ii1 j (by omega) hbj)
      · refine g_aload_n hX dX4_canRing_35 rfl rfl ?_
        refine g_getf hX dX4_canRing_36 fl_X4_19 (s0) rfl ?_
        refine g_iload_n hX dX4_canRing_39 rfl rfl ?_
        refine g_iaload hX dX4_canRing_40 (sti) (i1) (by omega) rfl (by omega) ?_
        refine g_bipush (v := (nI 15)) hX dX4_canRing_41 (by decide) ?_
        refine g_icmp_lt (tgt := 48) hX dX4_canRing_43 (by decide) (fun c5 => ?_) (fun c5 => ?_)
        · refine g_iinc (v := (nI (i1 + 1))) hX dX4_canRing_48 rfl rfl (gn_inc _ _) ?_
          refine g_goto (tgt := 2) hX dX4_canRing_51 (by decide) ?_
          exact ihi1 (fun j hj hbj => by
  by_cases e : j = i1
  · subst e
    have hb9 := so_band (hso _ hi1) hb3 (b := b)
    exact c5
  · exact Ii1 j (by omega) hbj)
        · have hb9 := so_band (hso i1 hi1) hb3 (b := b)
          refine g_iconst (v := (nI 0)) hX dX4_canRing_46 (by decide) ?_
          refine g_zreturn hX hr (by decide) dX4_canRing_47 (Nat.le_refl _) (Nat.le_refl _)  ?_
          exact ⟨by rw [if_neg (fun q => fresh_no hsi hrc hb3 hi1 (hb9.mpr ⟨c3, c4⟩) c5 q.2)], rfl, rfl⟩
  · intro IN6
    refine g_iload_n hX dX4_canRing_2 rfl rfl ?_
    refine g_aload_n hX dX4_canRing_3 rfl rfl ?_
    refine g_getf hX dX4_canRing_4 fl_X4_3 (s0) rfl ?_
    refine g_getf hX dX4_canRing_7 fl_X4_42 (m0) rfl ?_
    refine g_icmp_geN (tgt := 54) hX dX4_canRing_10 (by decide) (by omega) (fun c7 => ?_) (fun c7 => absurd c7 (by omega))
    refine g_aload_n hX dX4_canRing_54 rfl rfl ?_
    refine g_getf hX dX4_canRing_55 fl_X4_3 (s0) rfl ?_
    refine g_getf hX dX4_canRing_58 fl_X4_51 (m0) rfl ?_
    refine g_iload_n hX dX4_canRing_61 rfl rfl ?_
    refine g_iaload hX dX4_canRing_62 (mmn) (k) (by omega) rfl (by omega) ?_
    refine g_if_leN (tgt := 80) hX dX4_canRing_63 (by decide) (by omega) (fun c8 => ?_) (fun c8 => ?_)
    · refine g_iconst (v := (nI 0)) hX dX4_canRing_80 (by decide) ?_
      refine g_zreturn hX hr (by decide) dX4_canRing_81 (Nat.le_refl _) (Nat.le_refl _)  ?_
      exact ⟨by rw [if_neg (fun q => by have := q.1; omega)], rfl, rfl⟩
    · refine g_aload_n hX dX4_canRing_66 rfl rfl ?_
      refine g_iload_n hX dX4_canRing_67 rfl rfl ?_
      refine g_callV (As := [.int (nI b)]) hX dX4_canRing_68 cb_X4_manned ml_X4_54 im_X4_manned se_X4_manned rfl rfl (s0) ⟨_, rfl, rfl⟩ (kX4_manned hst (m0) (s0) (sst) (by omega) (by omega) (fun r hr => (hsi r hr).1)) (Nat.le_of_ble_eq_true rfl) (Nat.le_of_ble_eq_true rfl) (by omega) (by omega) (Nat.le_of_ble_eq_true rfl) GX.no (pq ?_)
      show GW X 71 [some (.ref t), some (.int (nI b)), some (.int (nI k)), some (.int (nI rc))] [.int (cntI st rc (nI b))] h n 0 0
      refine g_bipush (v := (nI 6)) hX dX4_canRing_71 (by decide) ?_
      refine g_icmp_ne (tgt := 80) hX dX4_canRing_73 (by decide) (fun c9 => ?_) (fun c9 => ?_)
      · refine g_iconst (v := (nI 0)) hX dX4_canRing_80 (by decide) ?_
        refine g_zreturn hX hr (by decide) dX4_canRing_81 (Nat.le_refl _) (Nat.le_refl _)  ?_
        exact ⟨by rw [if_neg (fun q => c9 ((fresh_all IN6).symm.trans q.2))], rfl, rfl⟩
      · refine g_iconst (v := (nI 1)) hX dX4_canRing_76 (by decide) ?_
        refine g_goto (tgt := 81) hX dX4_canRing_77 (by decide) ?_
        refine g_zreturn hX hr (by decide) dX4_canRing_81 (Nat.le_refl _) (Nat.le_refl _)  ?_
        exact ⟨by rw [if_pos ⟨by omega, (fresh_all IN6).trans c9⟩], rfl, rfl⟩
set_option maxRecDepth 20000 in
theorem kX4_copy {l : Launch} {K : gw_K} (hst : l.stackTraces = false) {n t a b : Nat} {h : gw_H} {f g : Nat → Int32} (ca : h a = (aI 20 f)) (cb : h b = (aI 20 g))  : Ctr l K mX4_copy [.ref t, .ref a, .ref b] h n 0 0 (PQ (none) (hs h b (aI 20 f)) n) (PX0) := by
  refine Ctr.of hst pn_X4_copy (Nat.le_of_ble_eq_true rfl) (fun X hX hr hE => ?_)
  have hX : FX l K X cX4_copy RX4 1 60 0 0 := hX
  show GW X 0 [some (.ref t), some (.ref a), some (.ref b)] [] h n 0 0
  refine g_aload_n hX dX4_copy_0 rfl rfl ?_
  refine g_iconst (v := (nI 0)) hX dX4_copy_1 (by decide) ?_
  refine g_aload_n hX dX4_copy_2 rfl rfl ?_
  refine g_iconst (v := (nI 0)) hX dX4_copy_3 (by decide) ?_
  refine g_aload_n hX dX4_copy_4 rfl rfl ?_
  refine g_alen_aI hX dX4_copy_5 (ca) ?_
  refine g_copyi hX dX4_copy_6 ml_X4_28 w_acN w_acS w_acI (ca) (cb) (20) rfl (by omega) (by omega) (by omega) (Nat.le_of_ble_eq_true rfl) (by decide +kernel) ?_
  refine g_ext (fun k hk => gn_cpy hk) ?_
  refine g_return hX hr dX4_copy_9 (Nat.le_refl _) (Nat.le_refl _)  ?_
  exact ⟨rfl, rfl, rfl⟩
set_option maxRecDepth 20000 in
theorem kX4_become {l : Launch} {K : gw_K} (hst : l.stackTraces = false) {n t o : Nat} {dy ody : Int32} {h : gw_H} {vt ti fa st ovt oti ofa ost : Nat → Int32} (hto : t + 5 ≤ o ∨ o + 5 ≤ t) (s0 : h t = (oB 4 [.int dy, .ref (t + 1), .ref (t + 2), .ref (t + 3), .ref (t + 4), .ref 40])) (svt : h (t + 1) = (aI 20 vt)) (sti : h (t + 2) = (aI 20 ti)) (sfa : h (t + 3) = (aI 20 fa)) (sst : h (t + 4) = (aI 20 st)) (q0 : h o = (oB 4 [.int ody, .ref (o + 1), .ref (o + 2), .ref (o + 3), .ref (o + 4), .ref 40])) (qvt : h (o + 1) = (aI 20 ovt)) (qti : h (o + 2) = (aI 20 oti)) (qfa : h (o + 3) = (aI 20 ofa)) (qst : h (o + 4) = (aI 20 ost))  : Ctr l K mX4_become [.ref t, .ref o] h n 0 0 (PQ (some (.ref t)) (hs (hs (hs (hs (hs h t (oB 4 [.int ody, .ref (t + 1), .ref (t + 2), .ref (t + 3), .ref (t + 4), .ref 40])) (t + 1) (aI 20 ovt)) (t + 2) (aI 20 oti)) (t + 3) (aI 20 ofa)) (t + 4) (aI 20 ost)) n) (PX0) := by
  refine Ctr.of hst pn_X4_become (Nat.le_of_ble_eq_true rfl) (fun X hX hr hE => ?_)
  have hX : FX l K X cX4_become RX4 2 82 0 0 := hX
  show GW X 0 [some (.ref t), some (.ref o)] [] h n 0 0
  refine g_aload_n hX dX4_become_0 rfl rfl ?_
  refine g_aload_n hX dX4_become_1 rfl rfl ?_
  refine g_getf hX dX4_become_2 fl_X4_34 (q0) rfl ?_
  refine g_putI hX dX4_become_5 fl_X4_34 (s0) (Nat.le_of_ble_eq_true rfl) ?_
  show GW X 8 [some (.ref t), some (.ref o)] [] (hs h t (oB 4 [.int ody, .ref (t + 1), .ref (t + 2), .ref (t + 3), .ref (t + 4), .ref 40])) n 0 0
  refine g_aload_n hX dX4_become_8 rfl rfl ?_
  refine g_aload_n hX dX4_become_9 rfl rfl ?_
  refine g_getf hX dX4_become_10 fl_X4_15 ((hs_ne (by omega)).trans (q0)) rfl ?_
  refine g_aload_n hX dX4_become_13 rfl rfl ?_
  refine g_getf hX dX4_become_14 fl_X4_15 (hs_eq _ _ _) rfl ?_
  refine g_callV (As := [.ref (o + 1), .ref (t + 1)]) hX dX4_become_17 cb_X4_copy ml_X4_38 im_X4_copy se_X4_copy rfl rfl (hs_eq _ _ _) ⟨_, rfl, rfl⟩ (kX4_copy hst ((hs_ne (by omega)).trans (qvt)) ((hs_ne (by omega)).trans (svt))) (Nat.le_of_ble_eq_true rfl) (Nat.le_of_ble_eq_true rfl) (by omega) (by omega) (Nat.le_of_ble_eq_true rfl) GX.no (pq ?_)
  show GW X 20 [some (.ref t), some (.ref o)] [] (hs (hs h t (oB 4 [.int ody, .ref (t + 1), .ref (t + 2), .ref (t + 3), .ref (t + 4), .ref 40])) (t + 1) (aI 20 ovt)) n 0 0
  refine g_aload_n hX dX4_become_20 rfl rfl ?_
  refine g_aload_n hX dX4_become_21 rfl rfl ?_
  refine g_getf hX dX4_become_22 fl_X4_19 ((hs_ne (by omega)).trans ((hs_ne (by omega)).trans (q0))) rfl ?_
  refine g_aload_n hX dX4_become_25 rfl rfl ?_
  refine g_getf hX dX4_become_26 fl_X4_19 ((hs_ne (by omega)).trans (hs_eq _ _ _)) rfl ?_
  refine g_callV (As := [.ref (o + 2), .ref (t + 2)]) hX dX4_become_29 cb_X4_copy ml_X4_38 im_X4_copy se_X4_copy rfl rfl ((hs_ne (by omega)).trans (hs_eq _ _ _)) ⟨_, rfl, rfl⟩ (kX4_copy hst ((hs_ne (by omega)).trans ((hs_ne (by omega)).trans (qti))) ((hs_ne (by omega)).trans ((hs_ne (by omega)).trans (sti)))) (Nat.le_of_ble_eq_true rfl) (Nat.le_of_ble_eq_true rfl) (by omega) (by omega) (Nat.le_of_ble_eq_true rfl) GX.no (pq ?_)
  show GW X 32 [some (.ref t), some (.ref o)] [] (hs (hs (hs h t (oB 4 [.int ody, .ref (t + 1), .ref (t + 2), .ref (t + 3), .ref (t + 4), .ref 40])) (t + 1) (aI 20 ovt)) (t + 2) (aI 20 oti)) n 0 0
  refine g_aload_n hX dX4_become_32 rfl rfl ?_
  refine g_aload_n hX dX4_become_33 rfl rfl ?_
  refine g_getf hX dX4_become_34 fl_X4_22 ((hs_ne (by omega)).trans ((hs_ne (by omega)).trans ((hs_ne (by omega)).trans (q0)))) rfl ?_
  refine g_aload_n hX dX4_become_37 rfl rfl ?_
  refine g_getf hX dX4_become_38 fl_X4_22 ((hs_ne (by omega)).trans ((hs_ne (by omega)).trans (hs_eq _ _ _))) rfl ?_
  refine g_callV (As := [.ref (o + 3), .ref (t + 3)]) hX dX4_become_41 cb_X4_copy ml_X4_38 im_X4_copy se_X4_copy rfl rfl ((hs_ne (by omega)).trans ((hs_ne (by omega)).trans (hs_eq _ _ _))) ⟨_, rfl, rfl⟩ (kX4_copy hst ((hs_ne (by omega)).trans ((hs_ne (by omega)).trans ((hs_ne (by omega)).trans (qfa)))) ((hs_ne (by omega)).trans ((hs_ne (by omega)).trans ((hs_ne (by omega)).trans (sfa))))) (Nat.le_of_ble_eq_true rfl) (Nat.le_of_ble_eq_true rfl) (by omega) (by omega) (Nat.le_of_ble_eq_true rfl) GX.no (pq ?_)
  show GW X 44 [some (.ref t), some (.ref o)] [] (hs (hs (hs (hs h t (oB 4 [.int ody, .ref (t + 1), .ref (t + 2), .ref (t + 3), .ref (t + 4), .ref 40])) (t + 1) (aI 20 ovt)) (t + 2) (aI 20 oti)) (t + 3) (aI 20 ofa)) n 0 0
  refine g_aload_n hX dX4_become_44 rfl rfl ?_
  refine g_aload_n hX dX4_become_45 rfl rfl ?_
  refine g_getf hX dX4_become_46 fl_X4_25 ((hs_ne (by omega)).trans ((hs_ne (by omega)).trans ((hs_ne (by omega)).trans ((hs_ne (by omega)).trans (q0))))) rfl ?_
  refine g_aload_n hX dX4_become_49 rfl rfl ?_
  refine g_getf hX dX4_become_50 fl_X4_25 ((hs_ne (by omega)).trans ((hs_ne (by omega)).trans ((hs_ne (by omega)).trans (hs_eq _ _ _)))) rfl ?_
  refine g_callV (As := [.ref (o + 4), .ref (t + 4)]) hX dX4_become_53 cb_X4_copy ml_X4_38 im_X4_copy se_X4_copy rfl rfl ((hs_ne (by omega)).trans ((hs_ne (by omega)).trans ((hs_ne (by omega)).trans (hs_eq _ _ _)))) ⟨_, rfl, rfl⟩ (kX4_copy hst ((hs_ne (by omega)).trans ((hs_ne (by omega)).trans ((hs_ne (by omega)).trans ((hs_ne (by omega)).trans (qst))))) ((hs_ne (by omega)).trans ((hs_ne (by omega)).trans ((hs_ne (by omega)).trans ((hs_ne (by omega)).trans (sst)))))) (Nat.le_of_ble_eq_true rfl) (Nat.le_of_ble_eq_true rfl) (by omega) (by omega) (Nat.le_of_ble_eq_true rfl) GX.no (pq ?_)
  show GW X 56 [some (.ref t), some (.ref o)] [] (hs (hs (hs (hs (hs h t (oB 4 [.int ody, .ref (t + 1), .ref (t + 2), .ref (t + 3), .ref (t + 4), .ref 40])) (t + 1) (aI 20 ovt)) (t + 2) (aI 20 oti)) (t + 3) (aI 20 ofa)) (t + 4) (aI 20 ost)) n 0 0
  refine g_aload_n hX dX4_become_56 rfl rfl ?_
  refine g_areturn hX hr (Or.inl ⟨_, rfl⟩) dX4_become_57 (Nat.le_refl _) (Nat.le_refl _) ?_
  exact ⟨rfl, rfl, rfl⟩
set_option maxRecDepth 20000 in
theorem kX4_elect {l : Launch} {K : gw_K} (hst : l.stackTraces = false) {n : Nat} {h : gw_H} {t : Nat} {dy : Int32} {rc mc : Nat} {thr tch frs len : Int32} {wd ws vt st : Nat → Int32} {b : Nat} (m0 : h 40 = (oB 5 [.int thr, .int (nI rc), .ref 41, .ref 42, .ref 43, .int (nI mc), .ref 44, .ref 45, .int tch, .int frs, .ref 46, .ref 47, .int len, .ref 48, .ref 49, .ref 50, .ref 51, .ref 56])) (mwd : h 41 = (aI 20 wd)) (mws : h 43 = (aI 18 ws)) (s0 : h t = (oB 4 [.int dy, .ref (t + 1), .ref (t + 2), .ref (t + 3), .ref (t + 4), .ref 40])) (svt : h (t + 1) = (aI 20 vt)) (sst : h (t + 4) = (aI 20 st)) (hrc : rc ≤ 20) (ht51 : 51 ≤ t) (hb3 : b < 3) (hso : ∀ r, r < rc → seatOK (st r)) (hvp : ∀ r, r < rc → 0 ≤ vt r) : Ctr l K mX4_elect [.ref t, .int (nI b)] h n 0 0 (PQ (some (.ref t)) (hs h (t + 4) (aI 20 (elB wd vt ws rc st b))) n) (PX0) := by
  refine Ctr.of hst pn_X4_elect (Nat.le_of_ble_eq_true rfl) (fun X hX hr hE => ?_)
  have hX : FX l K X cX4_elect RX4 0 0 0 0 := hX
  show GW X 0 [some (.ref t), some (.int (nI b)), none, none, none] [] h n 0 0
  have hco := clr_ok (b := nI b) hso
  refine g_iconst (v := (nI 0)) hX dX4_elect_0 (by decide) ?_
  refine g_istore_n (i := 2) hX dX4_elect_1 rfl (Nat.le_of_ble_eq_true rfl) rfl ?_
  refine g_cg (L' := [some (.ref t), some (.int (nI b)), some (.int (nI 0)), none, none]) (h' := (hs h (t + 4) (aI 20 st))) (by rfl) (hs_id sst).symm ?_
  refine g_for (P := fun (i : Nat) (s : Nat → Int32) => GW X 2 [some (.ref t), some (.int (nI b)), some (.int (nI i)), none, none] [] (hs h (t + 4) (aI 20 s)) n 0 0) (step := fun i s => if bandI (s i) = nI b then upd s i (-1) else s) rc st ?_ ?_
  · intro i1 s2 hi1 es2 ihi1
    have ihi1 : GW X 2 [some (.ref t), some (.int (nI b)), some (.int (nI (i1 + 1))), none, none] [] (hs h (t + 4) (aI 20 (if bandI (s2 i1) = nI b then upd s2 i1 (-1) else s2))) n 0 0 := ihi1
    have hc9 := hco i1 (by omega) i1 hi1
    rw [← es2] at hc9
    have hb9 := so_band hc9 hb3 (b := b)
    refine g_iload_n hX dX4_elect_2 rfl rfl ?_
    refine g_aload_n hX dX4_elect_3 rfl rfl ?_
    refine g_getf hX dX4_elect_4 fl_X4_3 ((hs_ne (by omega)).trans (s0)) rfl ?_
    refine g_getf hX dX4_elect_7 fl_X4_42 ((hs_ne (by omega)).trans (m0)) rfl ?_
    refine g_icmp_geN (tgt := 48) hX dX4_elect_10 (by decide) (by omega) (fun c3 => absurd c3 (by omega)) (fun c3 => ?_)
    refine g_aload_n hX dX4_elect_13 rfl rfl ?_
    refine g_getf hX dX4_elect_14 fl_X4_25 ((hs_ne (by omega)).trans (s0)) rfl ?_
    refine g_iload_n hX dX4_elect_17 rfl rfl ?_
    refine g_iaload hX dX4_elect_18 (hs_eq _ _ _) (i1) (by omega) rfl (by omega) ?_
    refine g_if_lt (tgt := 42) hX dX4_elect_19 (by decide) (fun c4 => ?_) (fun c4 => ?_)
    · refine g_iinc (v := (nI (i1 + 1))) hX dX4_elect_42 rfl rfl (gn_inc _ _) ?_
      refine g_goto (tgt := 2) hX dX4_elect_45 (by decide) ?_
      refine g_cv ihi1 rfl (by simp [hb9, c3, c4])
    · refine g_aload_n hX dX4_elect_22 rfl rfl ?_
      refine g_getf hX dX4_elect_23 fl_X4_25 ((hs_ne (by omega)).trans (s0)) rfl ?_
      refine g_iload_n hX dX4_elect_26 rfl rfl ?_
      refine g_iaload hX dX4_elect_27 (hs_eq _ _ _) (i1) (by omega) rfl (by omega) ?_
      refine g_bipush (v := (nI 6)) hX dX4_elect_28 (by decide) ?_
      refine g_idiv hX dX4_elect_30 (by decide) ?_
      refine g_iload_n hX dX4_elect_31 rfl rfl ?_
      refine g_icmp_ne (tgt := 42) hX dX4_elect_32 (by decide) (fun c5 => ?_) (fun c5 => ?_)
      · refine g_iinc (v := (nI (i1 + 1))) hX dX4_elect_42 rfl rfl (gn_inc _ _) ?_
        refine g_goto (tgt := 2) hX dX4_elect_45 (by decide) ?_
        refine g_cv ihi1 rfl (by simp [hb9, c3, c4, c5, gn_ile.mp c4])
      · refine g_aload_n hX dX4_elect_35 rfl rfl ?_
        refine g_getf hX dX4_elect_36 fl_X4_25 ((hs_ne (by omega)).trans (s0)) rfl ?_
        refine g_iload_n hX dX4_elect_39 rfl rfl ?_
        refine g_iconst (v := (-1)) hX dX4_elect_40 (by decide) ?_
        refine g_iastore hX dX4_elect_41 (hs_eq _ _ _) (i1) (by omega) rfl (by omega) ?_
        refine g_cg rfl hs_hs ?_
        refine g_iinc (v := (nI (i1 + 1))) hX dX4_elect_42 rfl rfl (gn_inc _ _) ?_
        refine g_goto (tgt := 2) hX dX4_elect_45 (by decide) ?_
        refine g_cv ihi1 rfl (by simp [hb9, c3, c4, c5, gn_ile.mp c4])
  · show GW X 2 [some (.ref t), some (.int (nI b)), some (.int (nI rc)), none, none] [] (hs h (t + 4) (aI 20 (clrB st rc (nI b)))) n 0 0
    refine g_iload_n hX dX4_elect_2 rfl rfl ?_
    refine g_aload_n hX dX4_elect_3 rfl rfl ?_
    refine g_getf hX dX4_elect_4 fl_X4_3 ((hs_ne (by omega)).trans (s0)) rfl ?_
    refine g_getf hX dX4_elect_7 fl_X4_42 ((hs_ne (by omega)).trans (m0)) rfl ?_
    refine g_icmp_geN (tgt := 48) hX dX4_elect_10 (by decide) (by omega) (fun c6 => ?_) (fun c6 => absurd c6 (by omega))
    refine g_bipush (v := (nI 6)) hX dX4_elect_48 (by decide) ?_
    refine g_iload_n hX dX4_elect_50 rfl rfl ?_
    refine g_imulN hX dX4_elect_51 ?_
    refine g_istore_n (i := 2) hX dX4_elect_52 rfl (Nat.le_of_ble_eq_true rfl) rfl ?_
    refine g_cg (L' := [some (.ref t), some (.int (nI b)), some (.int (nI (6 * b + 0))), none, none]) (h' := (hs h (t + 4) (aI 20 (clrB st rc (nI b))))) (by rfl) (by rfl) ?_
    refine g_for (P := fun (i : Nat) (s : Nat → Int32) => GW X 53 [some (.ref t), some (.int (nI b)), some (.int (nI (6 * b + i))), none, none] [] (hs h (t + 4) (aI 20 s)) n 0 0) (step := fun i s => elTo wd vt ws rc s (6 * b + i)) 6 (clrB st rc (nI b)) ?_ ?_
    · intro i7 s8 hi7 es8 ihi7
      have ihi7 : GW X 53 [some (.ref t), some (.int (nI b)), some (.int (nI (6 * b + i7 + 1))), none, none] [] (hs h (t + 4) (aI 20 (elTo wd vt ws rc s8 (6 * b + i7)))) n 0 0 := ihi7
      refine g_iload_n hX dX4_elect_53 rfl rfl ?_
      refine g_bipush (v := (nI 6)) hX dX4_elect_54 (by decide) ?_
      refine g_iload_n hX dX4_elect_56 rfl rfl ?_
      refine g_imulN hX dX4_elect_57 ?_
      refine g_bipush (v := (nI 6)) hX dX4_elect_58 (by decide) ?_
      refine g_iaddN hX dX4_elect_60 ?_
      refine g_icmp_geN (tgt := 162) hX dX4_elect_61 (by decide) (by omega) (fun c9 => absurd c9 (by omega)) (fun c9 => ?_)
      refine g_iconst (v := (-1)) hX dX4_elect_64 (by decide) ?_
      refine g_istore_n (i := 3) hX dX4_elect_65 rfl (Nat.le_of_ble_eq_true rfl) rfl ?_
      refine g_iconst (v := (nI 0)) hX dX4_elect_66 (by decide) ?_
      refine g_istore hX dX4_elect_67 (Nat.le_of_ble_eq_true rfl) rfl ?_
      refine g_cg (L' := [some (.ref t), some (.int (nI b)), some (.int (nI (6 * b + i7))), some (.int ((-1, -1).1)), some (.int (nI 0))]) (h' := (hs h (t + 4) (aI 20 s8))) (by rfl) (by rfl) ?_
      refine g_for (P := fun (i : Nat) (s : Int32 × Int32) => GW X 69 [some (.ref t), some (.int (nI b)), some (.int (nI (6 * b + i7))), some (.int s.1), some (.int (nI i))] [] (hs h (t + 4) (aI 20 s8)) n 0 0) (step := fun i s => bestP wd vt s8 (ws (6 * b + i7)) i s) rc (-1, -1) ?_ ?_
      · intro i10 ⟨bs11, ms11⟩ hi10 es11 ihi10
        have ihi10 : GW X 69 [some (.ref t), some (.int (nI b)), some (.int (nI (6 * b + i7))), some (.int ((bestP wd vt s8 (ws (6 * b + i7)) i10 (bs11, ms11)).1)), some (.int (nI (i10 + 1)))] [] (hs h (t + 4) (aI 20 s8)) n 0 0 := ihi10
        have hJ := bst_inv wd vt s8 (ws (6 * b + i7)) i10
        rw [← es11] at hJ
        obtain ⟨hm1, hbn⟩ := bst_use (b := bs11) (m := ms11) (by omega) hJ
        have hv9 := vt_pos (hvp i10 hi10)
        refine g_iload hX dX4_elect_69 rfl ?_
        refine g_aload_n hX dX4_elect_71 rfl rfl ?_
        refine g_getf hX dX4_elect_72 fl_X4_3 ((hs_ne (by omega)).trans (s0)) rfl ?_
        refine g_getf hX dX4_elect_75 fl_X4_42 ((hs_ne (by omega)).trans (m0)) rfl ?_
        refine g_icmp_geN (tgt := 144) hX dX4_elect_78 (by decide) (by omega) (fun c12 => absurd c12 (by omega)) (fun c12 => ?_)
        refine g_aload_n hX dX4_elect_81 rfl rfl ?_
        refine g_getf hX dX4_elect_82 fl_X4_3 ((hs_ne (by omega)).trans (s0)) rfl ?_
        refine g_getf hX dX4_elect_85 fl_X4_45 ((hs_ne (by omega)).trans (m0)) rfl ?_
        refine g_iload hX dX4_elect_88 rfl ?_
        refine g_iaload hX dX4_elect_90 ((hs_ne (by omega)).trans (mwd)) (i10) (by omega) rfl (by omega) ?_
        refine g_aload_n hX dX4_elect_91 rfl rfl ?_
        refine g_getf hX dX4_elect_92 fl_X4_3 ((hs_ne (by omega)).trans (s0)) rfl ?_
        refine g_getf hX dX4_elect_95 fl_X4_48 ((hs_ne (by omega)).trans (m0)) rfl ?_
        refine g_iload_n hX dX4_elect_98 rfl rfl ?_
        refine g_iaload hX dX4_elect_99 ((hs_ne (by omega)).trans (mws)) (6 * b + i7) (by omega) rfl (by omega) ?_
        refine g_icmp_ne (tgt := 138) hX dX4_elect_100 (by decide) (fun c13 => ?_) (fun c13 => ?_)
        · refine g_iinc (v := (nI (i10 + 1))) hX dX4_elect_138 rfl rfl (gn_inc _ _) ?_
          refine g_goto (tgt := 69) hX dX4_elect_141 (by decide) ?_
          refine g_cv ihi10 (by simp [bestP, c6, c9, c12, c13]) rfl
        · refine g_aload_n hX dX4_elect_103 rfl rfl ?_
          refine g_getf hX dX4_elect_104 fl_X4_25 ((hs_ne (by omega)).trans (s0)) rfl ?_
          refine g_iload hX dX4_elect_107 rfl ?_
          refine g_iaload hX dX4_elect_109 (hs_eq _ _ _) (i10) (by omega) rfl (by omega) ?_
          refine g_iconst (v := (-1)) hX dX4_elect_110 (by decide) ?_
          refine g_icmp_ne (tgt := 138) hX dX4_elect_111 (by decide) (fun c14 => ?_) (fun c14 => ?_)
          · refine g_iinc (v := (nI (i10 + 1))) hX dX4_elect_138 rfl rfl (gn_inc _ _) ?_
            refine g_goto (tgt := 69) hX dX4_elect_141 (by decide) ?_
            refine g_cv ihi10 (by simp [bestP, c6, c9, c12, c13, c14]) rfl
          · refine g_iload_n hX dX4_elect_114 rfl rfl ?_
            refine g_iconst (v := (-1)) hX dX4_elect_115 (by decide) ?_
            refine g_icmp_eq (tgt := 135) hX dX4_elect_116 (by decide) (fun c15 => ?_) (fun c15 => ?_)
            · have hm2 := hm1 c15
              refine g_iload hX dX4_elect_135 rfl ?_
              refine g_istore_n (i := 3) hX dX4_elect_137 rfl (Nat.le_of_ble_eq_true rfl) rfl ?_
              refine g_iinc (v := (nI (i10 + 1))) hX dX4_elect_138 rfl rfl (gn_inc _ _) ?_
              refine g_goto (tgt := 69) hX dX4_elect_141 (by decide) ?_
              refine g_cv ihi10 (by simp [bestP, c6, c9, c12, c13, c14, c15, hm2, hv9]) rfl
            · have hbq := hbn c15
              have hbq1 := hbq.1
              refine g_aload_n hX dX4_elect_119 rfl rfl ?_
              refine g_getf hX dX4_elect_120 fl_X4_15 ((hs_ne (by omega)).trans (s0)) rfl ?_
              refine g_iload hX dX4_elect_123 rfl ?_
              refine g_iaload hX dX4_elect_125 ((hs_ne (by omega)).trans (svt)) (i10) (by omega) rfl (by omega) ?_
              refine g_aload_n hX dX4_elect_126 rfl rfl ?_
              refine g_getf hX dX4_elect_127 fl_X4_15 ((hs_ne (by omega)).trans (s0)) rfl ?_
              refine g_iload_n hX dX4_elect_130 rfl rfl ?_
              refine g_iaload hX dX4_elect_131 ((hs_ne (by omega)).trans (svt)) (bs11.toNatClampNeg) (by omega) hbq.2.1 (by omega) ?_
              refine g_icmp_le (tgt := 138) hX dX4_elect_132 (by decide) (fun c16 => ?_) (fun c16 => ?_)
              · refine g_iinc (v := (nI (i10 + 1))) hX dX4_elect_138 rfl rfl (gn_inc _ _) ?_
                refine g_goto (tgt := 69) hX dX4_elect_141 (by decide) ?_
                refine g_cv ihi10 (by simp [bestP, c6, c9, c12, c13, c14, c15, c16, gn_ile.mpr c16, hbq.2.2]) rfl
              · refine g_iload hX dX4_elect_135 rfl ?_
                refine g_istore_n (i := 3) hX dX4_elect_137 rfl (Nat.le_of_ble_eq_true rfl) rfl ?_
                refine g_iinc (v := (nI (i10 + 1))) hX dX4_elect_138 rfl rfl (gn_inc _ _) ?_
                refine g_goto (tgt := 69) hX dX4_elect_141 (by decide) ?_
                refine g_cv ihi10 (by simp [bestP, c6, c9, c12, c13, c14, c15, c16, gn_ilt.mp c16, hbq.2.2]) rfl
      · show GW X 69 [some (.ref t), some (.int (nI b)), some (.int (nI (6 * b + i7))), some (.int (bestI wd vt s8 rc (ws (6 * b + i7)))), some (.int (nI rc))] [] (hs h (t + 4) (aI 20 s8)) n 0 0
        refine g_iload hX dX4_elect_69 rfl ?_
        refine g_aload_n hX dX4_elect_71 rfl rfl ?_
        refine g_getf hX dX4_elect_72 fl_X4_3 ((hs_ne (by omega)).trans (s0)) rfl ?_
        refine g_getf hX dX4_elect_75 fl_X4_42 ((hs_ne (by omega)).trans (m0)) rfl ?_
        refine g_icmp_geN (tgt := 144) hX dX4_elect_78 (by decide) (by omega) (fun c17 => ?_) (fun c17 => absurd c17 (by omega))
        refine g_iload_n hX dX4_elect_144 rfl rfl ?_
        refine g_iconst (v := (-1)) hX dX4_elect_145 (by decide) ?_
        refine g_icmp_eq (tgt := 156) hX dX4_elect_146 (by decide) (fun c18 => ?_) (fun c18 => ?_)
        · refine g_iinc (v := (nI ((6 * b + i7) + 1))) hX dX4_elect_156 rfl rfl (gn_inc _ _) ?_
          refine g_goto (tgt := 53) hX dX4_elect_159 (by decide) ?_
          refine g_kill 3 ?_
          refine g_kill 4 ?_
          refine g_cv ihi7 rfl (by rw [elTo, if_pos c18])
        · have hbi := bestI_in hrc c18
          refine g_aload_n hX dX4_elect_149 rfl rfl ?_
          refine g_getf hX dX4_elect_150 fl_X4_25 ((hs_ne (by omega)).trans (s0)) rfl ?_
          refine g_iload_n hX dX4_elect_153 rfl rfl ?_
          refine g_iload_n hX dX4_elect_154 rfl rfl ?_
          refine g_iastore hX dX4_elect_155 (hs_eq _ _ _) ((bestI wd vt s8 rc (ws (6 * b + i7))).toNatClampNeg) (by omega) hbi.2 (by omega) ?_
          refine g_cg rfl hs_hs ?_
          refine g_iinc (v := (nI ((6 * b + i7) + 1))) hX dX4_elect_156 rfl rfl (gn_inc _ _) ?_
          refine g_goto (tgt := 53) hX dX4_elect_159 (by decide) ?_
          refine g_kill 3 ?_
          refine g_kill 4 ?_
          refine g_cv ihi7 rfl (by rw [elTo, if_neg c18])
    · refine g_iload_n hX dX4_elect_53 rfl rfl ?_
      refine g_bipush (v := (nI 6)) hX dX4_elect_54 (by decide) ?_
      refine g_iload_n hX dX4_elect_56 rfl rfl ?_
      refine g_imulN hX dX4_elect_57 ?_
      refine g_bipush (v := (nI 6)) hX dX4_elect_58 (by decide) ?_
      refine g_iaddN hX dX4_elect_60 ?_
      refine g_icmp_geN (tgt := 162) hX dX4_elect_61 (by decide) (by omega) (fun c19 => ?_) (fun c19 => absurd c19 (by omega))
      refine g_aload_n hX dX4_elect_162 rfl rfl ?_
      refine g_areturn hX hr (Or.inl ⟨_, rfl⟩) dX4_elect_163 (Nat.le_refl _) (Nat.le_refl _) ?_
      exact ⟨rfl, by rw [elB_6], rfl⟩
set_option maxRecDepth 20000 in
theorem kX4_pass {l : Launch} {K : gw_K} (hst : l.stackTraces = false) {n t : Nat} {h : gw_H} {rc mc : Nat} {thr tch frs len : Int32} {wd ws vt : Nat → Int32} {z : (Nat → Int32) × (Nat → Int32) × Int32} (m0 : h 40 = (oB 5 [.int thr, .int (nI rc), .ref 41, .ref 42, .ref 43, .int (nI mc), .ref 44, .ref 45, .int tch, .int frs, .ref 46, .ref 47, .int len, .ref 48, .ref 49, .ref 50, .ref 51, .ref 56])) (mwd : h 41 = (aI 20 wd)) (mws : h 43 = (aI 18 ws)) (s0 : h t = (oB 4 [.int z.2.2, .ref (t + 1), .ref (t + 2), .ref (t + 3), .ref (t + 4), .ref 40])) (svt : h (t + 1) = (aI 20 vt)) (sti : h (t + 2) = (aI 20 z.1)) (sst : h (t + 4) = (aI 20 z.2.1)) (hrc : rc ≤ 20) (ht51 : 51 ≤ t) (hsi : seatI z.2.1 rc) (hvp : ∀ r, r < rc → 0 ≤ vt r) : Ctr l K mX4_pass [.ref t] h n 0 0 (PQ (none) (hs (hs (hs h t (oB 4 [.int ((dayI wd vt ws rc z).2.2), .ref (t + 1), .ref (t + 2), .ref (t + 3), .ref (t + 4), .ref 40])) (t + 2) (aI 20 ((dayI wd vt ws rc z).1))) (t + 4) (aI 20 ((dayI wd vt ws rc z).2.1))) n) (PX0) := by
  refine Ctr.of hst pn_X4_pass (Nat.le_of_ble_eq_true rfl) (fun X hX hr hE => ?_)
  have hX : FX l K X cX4_pass RX4 1 24 0 0 := hX
  show GW X 0 [some (.ref t), none] [] h n 0 0
  refine g_iconst (v := (nI 0)) hX dX4_pass_0 (by decide) ?_
  refine g_istore_n (i := 1) hX dX4_pass_1 rfl (Nat.le_of_ble_eq_true rfl) rfl ?_
  refine g_cg (L' := [some (.ref t), some (.int (nI 0))]) (h' := (hs h (t + 2) (aI 20 z.1))) (by rfl) (hs_id sti).symm ?_
  refine g_for (P := fun (i : Nat) (s : Nat → Int32) => GW X 2 [some (.ref t), some (.int (nI i))] [] (hs h (t + 2) (aI 20 s)) n 0 0) (step := fun i s => upd s i (if nI 0 < s i - (if z.2.1 i = -1 then nI 5 else nI 3) then s i - (if z.2.1 i = -1 then nI 5 else nI 3) else nI 0)) rc z.1 ?_ ?_
  · intro i1 s2 hi1 es2 ihi1
    have ihi1 : GW X 2 [some (.ref t), some (.int (nI (i1 + 1)))] [] (hs h (t + 2) (aI 20 (upd s2 i1 (if nI 0 < s2 i1 - (if z.2.1 i1 = -1 then nI 5 else nI 3) then s2 i1 - (if z.2.1 i1 = -1 then nI 5 else nI 3) else nI 0)))) n 0 0 := ihi1
    have hn9 := (so_neg (hsi i1 hi1).1).symm
    refine g_iload_n hX dX4_pass_2 rfl rfl ?_
    refine g_aload_n hX dX4_pass_3 rfl rfl ?_
    refine g_getf hX dX4_pass_4 fl_X4_3 ((hs_ne (by omega)).trans (s0)) rfl ?_
    refine g_getf hX dX4_pass_7 fl_X4_42 ((hs_ne (by omega)).trans (m0)) rfl ?_
    refine g_icmp_geN (tgt := 50) hX dX4_pass_10 (by decide) (by omega) (fun c3 => absurd c3 (by omega)) (fun c3 => ?_)
    refine g_aload_n hX dX4_pass_13 rfl rfl ?_
    refine g_getf hX dX4_pass_14 fl_X4_19 ((hs_ne (by omega)).trans (s0)) rfl ?_
    refine g_iload_n hX dX4_pass_17 rfl rfl ?_
    refine g_iconst (v := (nI 0)) hX dX4_pass_18 (by decide) ?_
    refine g_aload_n hX dX4_pass_19 rfl rfl ?_
    refine g_getf hX dX4_pass_20 fl_X4_19 ((hs_ne (by omega)).trans (s0)) rfl ?_
    refine g_iload_n hX dX4_pass_23 rfl rfl ?_
    refine g_iaload hX dX4_pass_24 (hs_eq _ _ _) (i1) (by omega) rfl (by omega) ?_
    refine g_aload_n hX dX4_pass_25 rfl rfl ?_
    refine g_getf hX dX4_pass_26 fl_X4_25 ((hs_ne (by omega)).trans (s0)) rfl ?_
    refine g_iload_n hX dX4_pass_29 rfl rfl ?_
    refine g_iaload hX dX4_pass_30 ((hs_ne (by omega)).trans (sst)) (i1) (by omega) rfl (by omega) ?_
    refine g_if_lt (tgt := 38) hX dX4_pass_31 (by decide) (fun c4 => ?_) (fun c4 => ?_)
    · refine g_iconst (v := (nI 5)) hX dX4_pass_38 (by decide) ?_
      refine g_isub hX dX4_pass_39 ?_
      refine g_mmax hX dX4_pass_40 ml_X4_84 w_mmaxS w_mI w_mmaxC (Nat.le_of_ble_eq_true rfl) (Nat.le_of_ble_eq_true rfl) (by omega) (by omega) ?_
      refine g_iastore hX dX4_pass_43 (hs_eq _ _ _) (i1) (by omega) rfl (by omega) ?_
      refine g_cg rfl hs_hs ?_
      refine g_iinc (v := (nI (i1 + 1))) hX dX4_pass_44 rfl rfl (gn_inc _ _) ?_
      refine g_goto (tgt := 2) hX dX4_pass_47 (by decide) ?_
      refine g_cv ihi1 rfl (by simp [hn9, c3, c4])
    · refine g_iconst (v := (nI 3)) hX dX4_pass_34 (by decide) ?_
      refine g_goto (tgt := 39) hX dX4_pass_35 (by decide) ?_
      refine g_isub hX dX4_pass_39 ?_
      refine g_mmax hX dX4_pass_40 ml_X4_84 w_mmaxS w_mI w_mmaxC (Nat.le_of_ble_eq_true rfl) (Nat.le_of_ble_eq_true rfl) (by omega) (by omega) ?_
      refine g_iastore hX dX4_pass_43 (hs_eq _ _ _) (i1) (by omega) rfl (by omega) ?_
      refine g_cg rfl hs_hs ?_
      refine g_iinc (v := (nI (i1 + 1))) hX dX4_pass_44 rfl rfl (gn_inc _ _) ?_
      refine g_goto (tgt := 2) hX dX4_pass_47 (by decide) ?_
      refine g_cv ihi1 rfl (by simp [hn9, c3, c4, gn_ile.mp c4])
  · refine g_iload_n hX dX4_pass_2 rfl rfl ?_
    refine g_aload_n hX dX4_pass_3 rfl rfl ?_
    refine g_getf hX dX4_pass_4 fl_X4_3 ((hs_ne (by omega)).trans (s0)) rfl ?_
    refine g_getf hX dX4_pass_7 fl_X4_42 ((hs_ne (by omega)).trans (m0)) rfl ?_
    refine g_icmp_geN (tgt := 50) hX dX4_pass_10 (by decide) (by omega) (fun c5 => ?_) (fun c5 => absurd c5 (by omega))
    refine g_iconst (v := (nI 0)) hX dX4_pass_50 (by decide) ?_
    refine g_istore_n (i := 1) hX dX4_pass_51 rfl (Nat.le_of_ble_eq_true rfl) rfl ?_
    rcases Classical.em (z.2.2 - z.2.2 / nI 7 * nI 7 = nI 6) with g9 | g9
    · refine g_cg (h' := (hs (hs h (t + 2) (aI 20 (itr (fun i s => upd s i (if nI 0 < s i - (if z.2.1 i = -1 then nI 5 else nI 3) then s i - (if z.2.1 i = -1 then nI 5 else nI 3) else nI 0)) rc z.1))) (t + 4) (aI 20 z.2.1))) rfl (hs_id ((hs_ne (by omega)).trans (sst))).symm ?_
      refine g_for (P := fun (i : Nat) (s : Nat → Int32) => GW X 52 [some (.ref t), some (.int (nI i))] [] (hs (hs h (t + 2) (aI 20 (itr (fun i s => upd s i (if nI 0 < s i - (if z.2.1 i = -1 then nI 5 else nI 3) then s i - (if z.2.1 i = -1 then nI 5 else nI 3) else nI 0)) rc z.1))) (t + 4) (aI 20 s)) n 0 0) (step := fun i s => elB wd vt ws rc s i) 3 z.2.1 ?_ ?_
      · intro i6 s7 hi6 es7 ihi6
        have ihi6 : GW X 52 [some (.ref t), some (.int (nI (i6 + 1)))] [] (hs (hs h (t + 2) (aI 20 (itr (fun i s => upd s i (if nI 0 < s i - (if z.2.1 i = -1 then nI 5 else nI 3) then s i - (if z.2.1 i = -1 then nI 5 else nI 3) else nI 0)) rc z.1))) (t + 4) (aI 20 (elB wd vt ws rc s7 i6))) n 0 0 := ihi6
        have hse9 := el3_I (wd := wd) (vt := vt) (ws := ws) hrc hsi i6 (by omega)
        rw [← es7] at hse9
        refine g_iload_n hX dX4_pass_52 rfl rfl ?_
        refine g_iconst (v := (nI 3)) hX dX4_pass_53 (by decide) ?_
        refine g_icmp_geN (tgt := 81) hX dX4_pass_54 (by decide) (by omega) (fun c8 => absurd c8 (by omega)) (fun c8 => ?_)
        refine g_aload_n hX dX4_pass_57 rfl rfl ?_
        refine g_getf hX dX4_pass_58 fl_X4_34 ((hs_ne (by omega)).trans ((hs_ne (by omega)).trans (s0))) rfl ?_
        refine g_bipush (v := (nI 7)) hX dX4_pass_61 (by decide) ?_
        refine g_irem hX dX4_pass_63 (by decide) ?_
        refine g_bipush (v := (nI 6)) hX dX4_pass_64 (by decide) ?_
        refine g_icmp_ne (tgt := 81) hX dX4_pass_66 (by decide) (fun c9 => absurd c9 (fun z => z g9)) (fun c9 => ?_)
        refine g_aload_n hX dX4_pass_69 rfl rfl ?_
        refine g_iload_n hX dX4_pass_70 rfl rfl ?_
        refine g_callV (As := [.int (nI i6)]) hX dX4_pass_71 cb_X4_elect ml_X4_87 im_X4_elect se_X4_elect rfl rfl ((hs_ne (by omega)).trans ((hs_ne (by omega)).trans (s0))) ⟨_, rfl, rfl⟩ (kX4_elect hst ((hs_ne (by omega)).trans ((hs_ne (by omega)).trans (m0))) ((hs_ne (by omega)).trans ((hs_ne (by omega)).trans (mwd))) ((hs_ne (by omega)).trans ((hs_ne (by omega)).trans (mws))) ((hs_ne (by omega)).trans ((hs_ne (by omega)).trans (s0))) ((hs_ne (by omega)).trans ((hs_ne (by omega)).trans (svt))) (hs_eq _ _ _) (by omega) (by omega) (by omega) (fun r hr => (hse9 r hr).1) (hvp)) (Nat.le_of_ble_eq_true rfl) (Nat.le_of_ble_eq_true rfl) (by omega) (by omega) (Nat.le_of_ble_eq_true rfl) GX.no (pq ?_)
        show GW X 74 [some (.ref t), some (.int (nI i6))] [.ref t] (hs (hs (hs h (t + 2) (aI 20 (itr (fun i s => upd s i (if nI 0 < s i - (if z.2.1 i = -1 then nI 5 else nI 3) then s i - (if z.2.1 i = -1 then nI 5 else nI 3) else nI 0)) rc z.1))) (t + 4) (aI 20 s7)) (t + 4) (aI 20 (elB wd vt ws rc s7 i6))) n 0 0
        refine g_cg rfl hs_hs ?_
        refine g_pop hX dX4_pass_74 rfl ?_
        refine g_iinc (v := (nI (i6 + 1))) hX dX4_pass_75 rfl rfl (gn_inc _ _) ?_
        refine g_goto (tgt := 52) hX dX4_pass_78 (by decide) ?_
        refine g_cv ihi6 rfl rfl
      · refine g_iload_n hX dX4_pass_52 rfl rfl ?_
        refine g_iconst (v := (nI 3)) hX dX4_pass_53 (by decide) ?_
        refine g_icmp_ge (tgt := 81) hX dX4_pass_54 (by decide) (fun _ => ?_) (fun c => absurd (by decide) c)
        refine g_aload_n hX dX4_pass_81 rfl rfl ?_
        refine g_dup hX dX4_pass_82 rfl ?_
        refine g_getf hX dX4_pass_83 fl_X4_34 ((hs_ne (by omega)).trans ((hs_ne (by omega)).trans (s0))) rfl ?_
        refine g_iconst (v := (nI 1)) hX dX4_pass_86 (by decide) ?_
        refine g_iadd hX dX4_pass_87 ?_
        refine g_putI hX dX4_pass_88 fl_X4_34 ((hs_ne (by omega)).trans ((hs_ne (by omega)).trans (s0))) (Nat.le_of_ble_eq_true rfl) ?_
        show GW X 91 [some (.ref t), some (.int (nI 3))] [] (hs (hs (hs h (t + 2) (aI 20 (itr (fun i s => upd s i (if nI 0 < s i - (if z.2.1 i = -1 then nI 5 else nI 3) then s i - (if z.2.1 i = -1 then nI 5 else nI 3) else nI 0)) rc z.1))) (t + 4) (aI 20 (itr (fun i s => elB wd vt ws rc s i) 3 z.2.1))) t (oB 4 [.int (z.2.2 + (nI 1)), .ref (t + 1), .ref (t + 2), .ref (t + 3), .ref (t + 4), .ref 40])) n 0 0
        refine g_return hX hr dX4_pass_91 (Nat.le_refl _) (Nat.le_refl _)  ?_
        have eD : dayI wd vt ws rc z = (restI z.2.1 z.1 rc, (itr (fun i s => elB wd vt ws rc s i) 3 z.2.1), z.2.2 + nI 1) := by
          unfold dayI
          rw [if_pos g9]
          rfl
        exact ⟨rfl, Eq.trans (by first | (rw [hs_cm (k := t) (j := t + 4) _ _ _ (by omega), hs_cm (k := t) (j := t + 2) _ _ _ (by omega)]; done) | (rw [hs_cm (k := t) (j := t + 4) _ _ _ (by omega), hs_cm (k := t) (j := t + 2) _ _ _ (by omega)]; rfl)) (by rw [eD]; rfl), rfl⟩
    · refine g_iload_n hX dX4_pass_52 rfl rfl ?_
      refine g_iconst (v := (nI 3)) hX dX4_pass_53 (by decide) ?_
      refine g_icmp_ge (tgt := 81) hX dX4_pass_54 (by decide) (fun c => absurd c (by decide)) (fun _ => ?_)
      refine g_aload_n hX dX4_pass_57 rfl rfl ?_
      refine g_getf hX dX4_pass_58 fl_X4_34 ((hs_ne (by omega)).trans (s0)) rfl ?_
      refine g_bipush (v := (nI 7)) hX dX4_pass_61 (by decide) ?_
      refine g_irem hX dX4_pass_63 (by decide) ?_
      refine g_bipush (v := (nI 6)) hX dX4_pass_64 (by decide) ?_
      refine g_icmp_ne (tgt := 81) hX dX4_pass_66 (by decide) (fun c10 => ?_) (fun c10 => absurd c10 g9)
      refine g_cg (h' := (hs (hs h (t + 2) (aI 20 (itr (fun i s => upd s i (if nI 0 < s i - (if z.2.1 i = -1 then nI 5 else nI 3) then s i - (if z.2.1 i = -1 then nI 5 else nI 3) else nI 0)) rc z.1))) (t + 4) (aI 20 z.2.1))) rfl (hs_id ((hs_ne (by omega)).trans (sst))).symm ?_
      refine g_aload_n hX dX4_pass_81 rfl rfl ?_
      refine g_dup hX dX4_pass_82 rfl ?_
      refine g_getf hX dX4_pass_83 fl_X4_34 ((hs_ne (by omega)).trans ((hs_ne (by omega)).trans (s0))) rfl ?_
      refine g_iconst (v := (nI 1)) hX dX4_pass_86 (by decide) ?_
      refine g_iadd hX dX4_pass_87 ?_
      refine g_putI hX dX4_pass_88 fl_X4_34 ((hs_ne (by omega)).trans ((hs_ne (by omega)).trans (s0))) (Nat.le_of_ble_eq_true rfl) ?_
      show GW X 91 [some (.ref t), some (.int (nI 0))] [] (hs (hs (hs h (t + 2) (aI 20 (itr (fun i s => upd s i (if nI 0 < s i - (if z.2.1 i = -1 then nI 5 else nI 3) then s i - (if z.2.1 i = -1 then nI 5 else nI 3) else nI 0)) rc z.1))) (t + 4) (aI 20 z.2.1)) t (oB 4 [.int (z.2.2 + (nI 1)), .ref (t + 1), .ref (t + 2), .ref (t + 3), .ref (t + 4), .ref 40])) n 0 0
      refine g_return hX hr dX4_pass_91 (Nat.le_refl _) (Nat.le_refl _)  ?_
      have eD : dayI wd vt ws rc z = (restI z.2.1 z.1 rc, z.2.1, z.2.2 + nI 1) := by
        unfold dayI
        rw [if_neg g9]
        rfl
      exact ⟨rfl, Eq.trans (by first | (rw [hs_cm (k := t) (j := t + 4) _ _ _ (by omega), hs_cm (k := t) (j := t + 2) _ _ _ (by omega)]; done) | (rw [hs_cm (k := t) (j := t + 4) _ _ _ (by omega), hs_cm (k := t) (j := t + 2) _ _ _ (by omega)]; rfl)) (by rw [eD]; rfl), rfl⟩
set_option maxRecDepth 20000 in
theorem kX4_pass_ {l : Launch} {K : gw_K} (hst : l.stackTraces = false) {n t : Nat} {h : gw_H} {rc mc : Nat} {thr tch frs len : Int32} {wd ws vt : Nat → Int32} {z : (Nat → Int32) × (Nat → Int32) × Int32} {d : Nat} (m0 : h 40 = (oB 5 [.int thr, .int (nI rc), .ref 41, .ref 42, .ref 43, .int (nI mc), .ref 44, .ref 45, .int tch, .int frs, .ref 46, .ref 47, .int len, .ref 48, .ref 49, .ref 50, .ref 51, .ref 56])) (mwd : h 41 = (aI 20 wd)) (mws : h 43 = (aI 18 ws)) (s0 : h t = (oB 4 [.int z.2.2, .ref (t + 1), .ref (t + 2), .ref (t + 3), .ref (t + 4), .ref 40])) (svt : h (t + 1) = (aI 20 vt)) (sti : h (t + 2) = (aI 20 z.1)) (sst : h (t + 4) = (aI 20 z.2.1)) (hrc : rc ≤ 20) (hd : d ≤ 60) (ht51 : 51 ≤ t) (hsi : seatI z.2.1 rc) (hvp : ∀ r, r < rc → 0 ≤ vt r) : Ctr l K mX4_pass_ [.ref t, .int (nI d)] h n 0 0 (PQ (none) (hs (hs (hs h t (oB 4 [.int ((daysI wd vt ws rc d z).2.2), .ref (t + 1), .ref (t + 2), .ref (t + 3), .ref (t + 4), .ref 40])) (t + 2) (aI 20 ((daysI wd vt ws rc d z).1))) (t + 4) (aI 20 ((daysI wd vt ws rc d z).2.1))) n) (PX0) := by
  refine Ctr.of hst pn_X4_pass_ (Nat.le_of_ble_eq_true rfl) (fun X hX hr hE => ?_)
  have hX : FX l K X cX4_pass_ RX4 2 45 0 0 := hX
  show GW X 0 [some (.ref t), some (.int (nI d)), none] [] h n 0 0
  refine g_iconst (v := (nI 0)) hX dX4_pass__0 (by decide) ?_
  refine g_istore_n (i := 2) hX dX4_pass__1 rfl (Nat.le_of_ble_eq_true rfl) rfl ?_
  refine g_cg (L' := [some (.ref t), some (.int (nI d)), some (.int (nI 0))]) (h' := (hs (hs (hs h t (oB 4 [.int z.2.2, .ref (t + 1), .ref (t + 2), .ref (t + 3), .ref (t + 4), .ref 40])) (t + 2) (aI 20 z.1)) (t + 4) (aI 20 z.2.1))) (by rfl) (by rw [hs_id s0, hs_id sti, hs_id sst]) ?_
  refine g_for (P := fun (i : Nat) (s : (Nat → Int32) × (Nat → Int32) × Int32) => GW X 2 [some (.ref t), some (.int (nI d)), some (.int (nI i))] [] (hs (hs (hs h t (oB 4 [.int s.2.2, .ref (t + 1), .ref (t + 2), .ref (t + 3), .ref (t + 4), .ref 40])) (t + 2) (aI 20 s.1)) (t + 4) (aI 20 s.2.1)) n 0 0) (step := fun i s => dayI wd vt ws rc s) d z ?_ ?_
  · intro i1 s2 hi1 es2 ihi1
    have ihi1 : GW X 2 [some (.ref t), some (.int (nI d)), some (.int (nI (i1 + 1)))] [] (hs (hs (hs h t (oB 4 [.int ((dayI wd vt ws rc s2).2.2), .ref (t + 1), .ref (t + 2), .ref (t + 3), .ref (t + 4), .ref 40])) (t + 2) (aI 20 ((dayI wd vt ws rc s2).1))) (t + 4) (aI 20 ((dayI wd vt ws rc s2).2.1))) n 0 0 := ihi1
    have hsi9 := days_I (d := d) (wd := wd) (vt := vt) (ws := ws) hrc hsi i1 (by omega)
    rw [← es2] at hsi9
    refine g_iload_n hX dX4_pass__2 rfl rfl ?_
    refine g_iload_n hX dX4_pass__3 rfl rfl ?_
    refine g_icmp_geN (tgt := 17) hX dX4_pass__4 (by decide) (by omega) (fun c3 => absurd c3 (by omega)) (fun c3 => ?_)
    refine g_aload_n hX dX4_pass__7 rfl rfl ?_
    refine g_callV (As := []) hX dX4_pass__8 cb_X4_pass ml_X4_91 im_X4_pass se_X4_pass rfl rfl ((hs_ne (by omega)).trans ((hs_ne (by omega)).trans (hs_eq _ _ _))) ⟨_, rfl, rfl⟩ (kX4_pass (z := s2) hst ((hs_ne (by omega)).trans ((hs_ne (by omega)).trans ((hs_ne (by omega)).trans (m0)))) ((hs_ne (by omega)).trans ((hs_ne (by omega)).trans ((hs_ne (by omega)).trans (mwd)))) ((hs_ne (by omega)).trans ((hs_ne (by omega)).trans ((hs_ne (by omega)).trans (mws)))) ((hs_ne (by omega)).trans ((hs_ne (by omega)).trans (hs_eq _ _ _))) ((hs_ne (by omega)).trans ((hs_ne (by omega)).trans ((hs_ne (by omega)).trans (svt)))) ((hs_ne (by omega)).trans (hs_eq _ _ _)) (hs_eq _ _ _) (by omega) (by omega) (hsi9) hvp) (Nat.le_of_ble_eq_true rfl) (Nat.le_of_ble_eq_true rfl) (by omega) (by omega) (Nat.le_of_ble_eq_true rfl) GX.no (pq ?_)
    show GW X 11 [some (.ref t), some (.int (nI d)), some (.int (nI i1))] [] (hs (hs (hs (hs (hs (hs h t (oB 4 [.int s2.2.2, .ref (t + 1), .ref (t + 2), .ref (t + 3), .ref (t + 4), .ref 40])) (t + 2) (aI 20 s2.1)) (t + 4) (aI 20 s2.2.1)) t (oB 4 [.int ((dayI wd vt ws rc s2).2.2), .ref (t + 1), .ref (t + 2), .ref (t + 3), .ref (t + 4), .ref 40])) (t + 2) (aI 20 ((dayI wd vt ws rc s2).1))) (t + 4) (aI 20 ((dayI wd vt ws rc s2).2.1))) n 0 0
    refine g_cg (h' := (hs (hs (hs h t (oB 4 [.int ((dayI wd vt ws rc s2).2.2), .ref (t + 1), .ref (t + 2), .ref (t + 3), .ref (t + 4), .ref 40])) (t + 2) (aI 20 ((dayI wd vt ws rc s2).1))) (t + 4) (aI 20 ((dayI wd vt ws rc s2).2.1)))) rfl (by rw [hs_cm (k := t) (j := t + 4) _ _ _ (by omega), hs_cm (k := t) (j := t + 2) _ _ _ (by omega), hs_hs (k := t), hs_cm (k := t + 2) (j := t + 4) _ _ _ (by omega), hs_hs (k := t + 2), hs_hs (k := t + 4)]) ?_
    refine g_iinc (v := (nI (i1 + 1))) hX dX4_pass__11 rfl rfl (gn_inc _ _) ?_
    refine g_goto (tgt := 2) hX dX4_pass__14 (by decide) ?_
    refine g_cv ihi1 rfl rfl
  · refine g_iload_n hX dX4_pass__2 rfl rfl ?_
    refine g_iload_n hX dX4_pass__3 rfl rfl ?_
    refine g_icmp_geN (tgt := 17) hX dX4_pass__4 (by decide) (by omega) (fun c4 => ?_) (fun c4 => absurd c4 (by omega))
    refine g_return hX hr dX4_pass__17 (Nat.le_refl _) (Nat.le_refl _)  ?_
    exact ⟨rfl, rfl, rfl⟩
