set_option maxRecDepth 20000 in
theorem kX5_walk {l : Launch} {K : gw_K} (hst : l.stackTraces = false) {n : Nat} {h : gw_H} {rc mc : Nat} {thr tch frs len : Int32} {mn : Nat → Nat} {cs co dg go we rw_ : Nat → Int32} {m L : Nat} (m0 : h 40 = (oB 5 [.int thr, .int (nI rc), .ref 41, .ref 42, .ref 43, .int (nI mc), .ref 44, .ref 45, .int tch, .int frs, .ref 46, .ref 47, .int len, .ref 48, .ref 49, .ref 50, .ref 51, .ref 56])) (mmn : h 44 = (aI 5 (fun k => nI (mn k)))) (mcs : h 45 = (aI 60 cs)) (mco : h 46 = (aI 201 co)) (mdg : h 47 = (aI 201 dg)) (mrw : h 48 = (aI 6 rw_)) (mgo : h 49 = (aI 6 go)) (mwe : h 50 = (aI 6 we)) (hm5 : m < 5) (hL : L ≤ 12) (hmn : mn m ≤ 12) : Ctr l K mX5_walk [.ref 40, .int (nI m), .int (nI L)] h n 0 0 (PWk none (hs h 40 (oB 5 [.int thr, .int (nI rc), .ref 41, .ref 42, .ref 43, .int (nI mc), .ref 44, .ref 45, .int tch, .int frs, .ref 46, .ref 47, .int (nI (L * mn m)), .ref 48, .ref 49, .ref 50, .ref 51, .ref 56])) n (chM cs mn m) (L * mn m)) (PX0) := by
  refine Ctr.of hst pn_X5_walk (Nat.le_of_ble_eq_true rfl) (fun X hX hr hE => ?_)
  have hX : FX l K X cX5_walk RX5 2 52 0 0 := hX
  show GW X 0 [some (.ref 40), some (.int (nI m)), some (.int (nI L))] [] h n 0 0
  have hnn9 := Nat.mul_le_mul hL hmn
  have hz9 : L * mn m = 0 ∨ 0 < mn m ∧ mn m ≤ 12 := by
      rcases Nat.eq_zero_or_pos (mn m) with e | e
      · exact Or.inl (by rw [e, Nat.mul_zero])
      · exact Or.inr ⟨e, hmn⟩
  refine g_aload_n hX dX5_walk_0 rfl rfl ?_
  refine g_iload_n hX dX5_walk_1 rfl rfl ?_
  refine g_iload_n hX dX5_walk_2 rfl rfl ?_
  refine g_aload_n hX dX5_walk_3 rfl rfl ?_
  refine g_getf hX dX5_walk_4 fl_X5_19 (m0) rfl ?_
  refine g_iload_n hX dX5_walk_7 rfl rfl ?_
  refine g_iaload hX dX5_walk_8 (mmn) (m) (by omega) rfl (by omega) ?_
  refine g_imulN hX dX5_walk_9 ?_
  refine g_callV (As := [.int (nI m), .int (nI (L * (mn m)))]) hX dX5_walk_10 cb_X5_walkChanges ml_X5_73 im_X5_walkChanges se_X5_walkChanges rfl rfl (m0) ⟨_, rfl, rfl⟩ (kX5_walkChanges hst (m0) (mmn) (mcs) (mco) (mdg) (mrw) (mgo) (mwe) (by omega) (by omega) (by omega)) (Nat.le_of_ble_eq_true rfl) (Nat.le_of_ble_eq_true rfl) (by omega) (by omega) (Nat.le_of_ble_eq_true rfl) GX.no ?_
  rintro _ h1 _ - ⟨rfl, rfl, hk2⟩
  show GW X 13 [some (.ref 40), some (.int (nI m)), some (.int (nI L))] [] h1 n 0 0
  obtain ⟨hk2K, co1, dg1, rw_1, go1, we1, q46_1, q47_1, q48_1, q49_1, q50_1, hco1, hdg1⟩ := id hk2
  refine g_return hX hr dX5_walk_13 (Nat.le_refl _) (Nat.le_refl _)  ?_
  exact ⟨rfl, rfl, fun j hj => (hk2K j (by omega)).trans (hs_cgj (rfl)), hk2.2⟩
set_option maxRecDepth 20000 in
theorem kX5_isNew {l : Launch} {K : gw_K} (hst : l.stackTraces = false) {n : Nat} {h : gw_H} {rc mc : Nat} {thr tch frs len : Int32} {co : Nat → Int32} {k : Nat} (m0 : h 40 = (oB 5 [.int thr, .int (nI rc), .ref 41, .ref 42, .ref 43, .int (nI mc), .ref 44, .ref 45, .int tch, .int frs, .ref 46, .ref 47, .int len, .ref 48, .ref 49, .ref 50, .ref 51, .ref 56])) (mco : h 46 = (aI 201 co)) (hk2 : k ≤ 200) : Ctr l K mX5_isNew [.ref 40, .int (nI k)] h n 0 0 (PQ (some (.int (if nwP co k then nI 1 else nI 0))) h n) (PX0) := by
  refine Ctr.of hst pn_X5_isNew (Nat.le_of_ble_eq_true rfl) (fun X hX hr hE => ?_)
  have hX : FX l K X cX5_isNew RX5 0 0 0 0 := hX
  show GW X 0 [some (.ref 40), some (.int (nI k)), none] [] h n 0 0
  refine g_iconst (v := (nI 0)) hX dX5_isNew_0 (by decide) ?_
  refine g_istore_n (i := 2) hX dX5_isNew_1 rfl (Nat.le_of_ble_eq_true rfl) rfl ?_
  refine g_loop (P := fun (i : Nat) => GW X 2 [some (.ref 40), some (.int (nI k)), some (.int (nI i))] [] h n 0 0) (fun i => (∀ j, j < i → ¬ co j = co k)) k (fun j hj => absurd hj (by omega)) ?_ ?_
  · intro i1 hi1 Ii1 ihi1
    have ihi1 : (∀ j, j < (i1 + 1) → ¬ co j = co k) → GW X 2 [some (.ref 40), some (.int (nI k)), some (.int (nI (i1 + 1)))] [] h n 0 0 := ihi1
    refine g_iload_n hX dX5_isNew_2 rfl rfl ?_
    refine g_iload_n hX dX5_isNew_3 rfl rfl ?_
    refine g_icmp_geN (tgt := 30) hX dX5_isNew_4 (by decide) (by omega) (fun c2 => absurd c2 (by omega)) (fun c2 => ?_)
    refine g_aload_n hX dX5_isNew_7 rfl rfl ?_
    refine g_getf hX dX5_isNew_8 fl_X5_25 (m0) rfl ?_
    refine g_iload_n hX dX5_isNew_11 rfl rfl ?_
    refine g_iaload hX dX5_isNew_12 (mco) (i1) (by omega) rfl (by omega) ?_
    refine g_aload_n hX dX5_isNew_13 rfl rfl ?_
    refine g_getf hX dX5_isNew_14 fl_X5_25 (m0) rfl ?_
    refine g_iload_n hX dX5_isNew_17 rfl rfl ?_
    refine g_iaload hX dX5_isNew_18 (mco) (k) (by omega) rfl (by omega) ?_
    refine g_icmp_ne (tgt := 24) hX dX5_isNew_19 (by decide) (fun c3 => ?_) (fun c3 => ?_)
    · refine g_iinc (v := (nI (i1 + 1))) hX dX5_isNew_24 rfl rfl (gn_inc _ _) ?_
      refine g_goto (tgt := 2) hX dX5_isNew_27 (by decide) ?_
      exact ihi1 (nw_step Ii1 c3)
    · refine g_iconst (v := (nI 0)) hX dX5_isNew_22 (by decide) ?_
      refine g_zreturn hX hr (by decide) dX5_isNew_23 (Nat.le_refl _) (Nat.le_refl _)  ?_
      exact ⟨by rw [if_neg (fun q => q i1 hi1 c3)], rfl, rfl⟩
  · intro IN4
    refine g_iload_n hX dX5_isNew_2 rfl rfl ?_
    refine g_iload_n hX dX5_isNew_3 rfl rfl ?_
    refine g_icmp_geN (tgt := 30) hX dX5_isNew_4 (by decide) (by omega) (fun c5 => ?_) (fun c5 => absurd c5 (by omega))
    refine g_iconst (v := (nI 1)) hX dX5_isNew_30 (by decide) ?_
    refine g_zreturn hX hr (by decide) dX5_isNew_31 (Nat.le_refl _) (Nat.le_refl _)  ?_
    exact ⟨by rw [if_pos IN4], rfl, rfl⟩
set_option maxRecDepth 20000 in
theorem kX5_untrue {l : Launch} {K : gw_K} (hst : l.stackTraces = false) {n : Nat} {h : gw_H} {rc mc : Nat} {thr tch frs : Int32} {co : Nat → Int32} {nn : Nat} {cc : Nat → Int32} (m0 : h 40 = (oB 5 [.int thr, .int (nI rc), .ref 41, .ref 42, .ref 43, .int (nI mc), .ref 44, .ref 45, .int tch, .int frs, .ref 46, .ref 47, .int (nI nn), .ref 48, .ref 49, .ref 50, .ref 51, .ref 56])) (mco : h 46 = (aI 201 co)) (hnn : nn ≤ 200) (hco : ∀ k, k ≤ nn → co k = cc k) : Ctr l K mX5_untrue [.ref 40] h n 0 0 (PQ (some (.int (untI cc nn))) h n) (PX0) := by
  refine Ctr.of hst pn_X5_untrue (Nat.le_of_ble_eq_true rfl) (fun X hX hr hE => ?_)
  have hX : FX l K X cX5_untrue RX5 1 22 0 0 := hX
  show GW X 0 [some (.ref 40), none, none] [] h n 0 0
  refine g_iconst (v := (nI 0)) hX dX5_untrue_0 (by decide) ?_
  refine g_istore_n (i := 1) hX dX5_untrue_1 rfl (Nat.le_of_ble_eq_true rfl) rfl ?_
  refine g_iconst (v := (nI 1)) hX dX5_untrue_2 (by decide) ?_
  refine g_istore_n (i := 2) hX dX5_untrue_3 rfl (Nat.le_of_ble_eq_true rfl) rfl ?_
  refine g_cg (L' := [some (.ref 40), some (.int (nI 0)), some (.int (nI (0 + 1)))]) (h' := h) (by rfl) (by rfl) ?_
  refine g_for (P := fun (i : Nat) (s : Int32) => GW X 4 [some (.ref 40), some (.int s), some (.int (nI (i + 1)))] [] h n 0 0) (step := fun i s => unP co nn i s) nn (nI 0) ?_ ?_
  · intro i1 s2 hi1 es2 ihi1
    have ihi1 : GW X 4 [some (.ref 40), some (.int (unP co nn i1 s2)), some (.int (nI (i1 + 1 + 1)))] [] h n 0 0 := ihi1
    refine g_iload_n hX dX5_untrue_4 rfl rfl ?_
    refine g_aload_n hX dX5_untrue_5 rfl rfl ?_
    refine g_getf hX dX5_untrue_6 fl_X5_66 (m0) rfl ?_
    refine g_icmp_gtN (tgt := 54) hX dX5_untrue_9 (by decide) (by omega) (fun c3 => absurd c3 (by omega)) (fun c3 => ?_)
    refine g_iload_n hX dX5_untrue_12 rfl rfl ?_
    refine g_aload_n hX dX5_untrue_13 rfl rfl ?_
    refine g_iload_n hX dX5_untrue_14 rfl rfl ?_
    refine g_callV (As := [.int (nI (i1 + 1))]) hX dX5_untrue_15 cb_X5_isNew ml_X5_77 im_X5_isNew se_X5_isNew rfl rfl (m0) ⟨_, rfl, rfl⟩ (kX5_isNew hst (m0) (mco) (by omega)) (Nat.le_of_ble_eq_true rfl) (Nat.le_of_ble_eq_true rfl) (by omega) (by omega) (Nat.le_of_ble_eq_true rfl) GX.no (pq ?_)
    show GW X 18 [some (.ref 40), some (.int s2), some (.int (nI (i1 + 1)))] [.int (if nwP co (i1 + 1) then nI 1 else nI 0), .int s2] h n 0 0
    refine g_ifB_ne (tgt := 41) hX dX5_untrue_18 (by decide) (fun c4 => ?_) (fun c4 => ?_)
    · refine g_iconst (v := (nI 0)) hX dX5_untrue_41 (by decide) ?_
      refine g_goto (tgt := 46) hX dX5_untrue_42 (by decide) ?_
      refine g_iadd hX dX5_untrue_46 ?_
      refine g_istore_n (i := 1) hX dX5_untrue_47 rfl (Nat.le_of_ble_eq_true rfl) rfl ?_
      refine g_iinc (v := (nI ((i1 + 1) + 1))) hX dX5_untrue_48 rfl rfl (gn_inc _ _) ?_
      refine g_goto (tgt := 4) hX dX5_untrue_51 (by decide) ?_
      refine g_cv ihi1 (by rw [unP, if_pos (Or.inl c4)]; rfl) rfl
    · refine g_iload_n hX dX5_untrue_21 rfl rfl ?_
      refine g_aload_n hX dX5_untrue_22 rfl rfl ?_
      refine g_getf hX dX5_untrue_23 fl_X5_66 (m0) rfl ?_
      refine g_icmp_neN (tgt := 45) hX dX5_untrue_26 (by decide) (by omega) (fun c5 => ?_) (fun c5 => ?_)
      · refine g_iconst (v := (nI 1)) hX dX5_untrue_45 (by decide) ?_
        refine g_iadd hX dX5_untrue_46 ?_
        refine g_istore_n (i := 1) hX dX5_untrue_47 rfl (Nat.le_of_ble_eq_true rfl) rfl ?_
        refine g_iinc (v := (nI ((i1 + 1) + 1))) hX dX5_untrue_48 rfl rfl (gn_inc _ _) ?_
        refine g_goto (tgt := 4) hX dX5_untrue_51 (by decide) ?_
        refine g_cv ihi1 (by rw [unP, if_neg (fun q => q.elim c4 (fun z => c5 z.1))]; rfl) rfl
      · refine g_aload_n hX dX5_untrue_29 rfl rfl ?_
        refine g_getf hX dX5_untrue_30 fl_X5_25 (m0) rfl ?_
        refine g_iload_n hX dX5_untrue_33 rfl rfl ?_
        refine g_iaload hX dX5_untrue_34 (mco) (i1 + 1) (by omega) rfl (by omega) ?_
        refine g_sipush (v := (nI 1865)) hX dX5_untrue_35 (by decide) ?_
        refine g_icmp_ne (tgt := 45) hX dX5_untrue_38 (by decide) (fun c6 => ?_) (fun c6 => ?_)
        · refine g_iconst (v := (nI 1)) hX dX5_untrue_45 (by decide) ?_
          refine g_iadd hX dX5_untrue_46 ?_
          refine g_istore_n (i := 1) hX dX5_untrue_47 rfl (Nat.le_of_ble_eq_true rfl) rfl ?_
          refine g_iinc (v := (nI ((i1 + 1) + 1))) hX dX5_untrue_48 rfl rfl (gn_inc _ _) ?_
          refine g_goto (tgt := 4) hX dX5_untrue_51 (by decide) ?_
          refine g_cv ihi1 (by rw [unP, if_neg (fun q => q.elim c4 (fun z => c6 z.2))]; rfl) rfl
        · refine g_iconst (v := (nI 0)) hX dX5_untrue_41 (by decide) ?_
          refine g_goto (tgt := 46) hX dX5_untrue_42 (by decide) ?_
          refine g_iadd hX dX5_untrue_46 ?_
          refine g_istore_n (i := 1) hX dX5_untrue_47 rfl (Nat.le_of_ble_eq_true rfl) rfl ?_
          refine g_iinc (v := (nI ((i1 + 1) + 1))) hX dX5_untrue_48 rfl rfl (gn_inc _ _) ?_
          refine g_goto (tgt := 4) hX dX5_untrue_51 (by decide) ?_
          refine g_cv ihi1 (by rw [unP, if_pos (Or.inr ⟨c5, c6⟩)]; rfl) rfl
  · refine g_iload_n hX dX5_untrue_4 rfl rfl ?_
    refine g_aload_n hX dX5_untrue_5 rfl rfl ?_
    refine g_getf hX dX5_untrue_6 fl_X5_66 (m0) rfl ?_
    refine g_icmp_gtN (tgt := 54) hX dX5_untrue_9 (by decide) (by omega) (fun c7 => ?_) (fun c7 => absurd c7 (by omega))
    refine g_iload_n hX dX5_untrue_54 rfl rfl ?_
    refine g_ireturn hX hr dX5_untrue_55 (Nat.le_refl _) (Nat.le_refl _)  ?_
    exact ⟨by rw [← unt_cg hco]; rfl, rfl, rfl⟩
set_option maxRecDepth 20000 in
theorem kX5_dodgesOf {l : Launch} {K : gw_K} (hst : l.stackTraces = false) {n : Nat} {h : gw_H} {rc mc : Nat} {thr tch frs : Int32} {dg : Nat → Int32} {b nn : Nat} {dd : Nat → Int32} (m0 : h 40 = (oB 5 [.int thr, .int (nI rc), .ref 41, .ref 42, .ref 43, .int (nI mc), .ref 44, .ref 45, .int tch, .int frs, .ref 46, .ref 47, .int (nI nn), .ref 48, .ref 49, .ref 50, .ref 51, .ref 56])) (mdg : h 47 = (aI 201 dg)) (hb6 : b < 6) (hnn : nn ≤ 200) (hdg : ∀ k, k < nn → dg (k + 1) = dd k) : Ctr l K mX5_dodgesOf [.ref 40, .int (nI b)] h n 0 0 (PQ (some (.int (dofI dd b nn))) h n) (PX0) := by
  refine Ctr.of hst pn_X5_dodgesOf (Nat.le_of_ble_eq_true rfl) (fun X hX hr hE => ?_)
  have hX : FX l K X cX5_dodgesOf RX5 0 0 0 0 := hX
  show GW X 0 [some (.ref 40), some (.int (nI b)), none, none] [] h n 0 0
  refine g_iconst (v := (nI 0)) hX dX5_dodgesOf_0 (by decide) ?_
  refine g_istore_n (i := 2) hX dX5_dodgesOf_1 rfl (Nat.le_of_ble_eq_true rfl) rfl ?_
  refine g_iconst (v := (nI 1)) hX dX5_dodgesOf_2 (by decide) ?_
  refine g_istore_n (i := 3) hX dX5_dodgesOf_3 rfl (Nat.le_of_ble_eq_true rfl) rfl ?_
  refine g_cg (L' := [some (.ref 40), some (.int (nI b)), some (.int (nI 0)), some (.int (nI (0 + 1)))]) (h' := h) (by rfl) (by rfl) ?_
  refine g_for (P := fun (i : Nat) (s : Int32) => GW X 4 [some (.ref 40), some (.int (nI b)), some (.int s), some (.int (nI (i + 1)))] [] h n 0 0) (step := fun i s => s + ((dg (i + 1) >>> (nI b &&& 31)) &&& nI 1)) nn (nI 0) ?_ ?_
  · intro i1 s2 hi1 es2 ihi1
    have ihi1 : GW X 4 [some (.ref 40), some (.int (nI b)), some (.int (s2 + ((dg (i1 + 1) >>> (nI b &&& 31)) &&& nI 1))), some (.int (nI (i1 + 1 + 1)))] [] h n 0 0 := ihi1
    refine g_iload_n hX dX5_dodgesOf_4 rfl rfl ?_
    refine g_aload_n hX dX5_dodgesOf_5 rfl rfl ?_
    refine g_getf hX dX5_dodgesOf_6 fl_X5_66 (m0) rfl ?_
    refine g_icmp_gtN (tgt := 31) hX dX5_dodgesOf_9 (by decide) (by omega) (fun c3 => absurd c3 (by omega)) (fun c3 => ?_)
    refine g_iload_n hX dX5_dodgesOf_12 rfl rfl ?_
    refine g_aload_n hX dX5_dodgesOf_13 rfl rfl ?_
    refine g_getf hX dX5_dodgesOf_14 fl_X5_28 (m0) rfl ?_
    refine g_iload_n hX dX5_dodgesOf_17 rfl rfl ?_
    refine g_iaload hX dX5_dodgesOf_18 (mdg) (i1 + 1) (by omega) rfl (by omega) ?_
    refine g_iload_n hX dX5_dodgesOf_19 rfl rfl ?_
    refine g_ishr hX dX5_dodgesOf_20 ?_
    refine g_iconst (v := (nI 1)) hX dX5_dodgesOf_21 (by decide) ?_
    refine g_iand hX dX5_dodgesOf_22 ?_
    refine g_iadd hX dX5_dodgesOf_23 ?_
    refine g_istore_n (i := 2) hX dX5_dodgesOf_24 rfl (Nat.le_of_ble_eq_true rfl) rfl ?_
    refine g_iinc (v := (nI ((i1 + 1) + 1))) hX dX5_dodgesOf_25 rfl rfl (gn_inc _ _) ?_
    refine g_goto (tgt := 4) hX dX5_dodgesOf_28 (by decide) ?_
    refine g_cv ihi1 rfl rfl
  · refine g_iload_n hX dX5_dodgesOf_4 rfl rfl ?_
    refine g_aload_n hX dX5_dodgesOf_5 rfl rfl ?_
    refine g_getf hX dX5_dodgesOf_6 fl_X5_66 (m0) rfl ?_
    refine g_icmp_gtN (tgt := 31) hX dX5_dodgesOf_9 (by decide) (by omega) (fun c4 => ?_) (fun c4 => absurd c4 (by omega))
    refine g_iload_n hX dX5_dodgesOf_31 rfl rfl ?_
    refine g_ireturn hX hr dX5_dodgesOf_32 (Nat.le_refl _) (Nat.le_refl _)  ?_
    exact ⟨by rw [← dof_cg hdg], rfl, rfl⟩
set_option maxRecDepth 20000 in
theorem kX5_course {l : Launch} {K : gw_K} (hst : l.stackTraces = false) {n : Nat} {h : gw_H} {rc mc : Nat} {thr tch frs len : Int32} {mn : Nat → Nat} {cs co dg go we rw_ : Nat → Int32} {m : Nat} (m0 : h 40 = (oB 5 [.int thr, .int (nI rc), .ref 41, .ref 42, .ref 43, .int (nI mc), .ref 44, .ref 45, .int tch, .int frs, .ref 46, .ref 47, .int len, .ref 48, .ref 49, .ref 50, .ref 51, .ref 56])) (mmn : h 44 = (aI 5 (fun k => nI (mn k)))) (mcs : h 45 = (aI 60 cs)) (mco : h 46 = (aI 201 co)) (mdg : h 47 = (aI 201 dg)) (mrw : h 48 = (aI 6 rw_)) (mgo : h 49 = (aI 6 go)) (mwe : h 50 = (aI 6 we)) (hm5 : m < 5) (hmn : mn m ≤ 12) (hcr : codI (chM cs mn m) (crM (chM cs mn m) (mn m) * mn m) = nI 1865) : Ctr l K mX5_course [.ref 40, .int (nI m)] h n 0 0 (PWk (some (.int (nI (crM (chM cs mn m) (mn m))))) (hs h 40 (oB 5 [.int thr, .int (nI rc), .ref 41, .ref 42, .ref 43, .int (nI mc), .ref 44, .ref 45, .int tch, .int frs, .ref 46, .ref 47, .int (nI (crM (chM cs mn m) (mn m) * mn m)), .ref 48, .ref 49, .ref 50, .ref 51, .ref 56])) n (chM cs mn m) (crM (chM cs mn m) (mn m) * mn m)) (PX0) := by
  refine Ctr.of hst pn_X5_course (Nat.le_of_ble_eq_true rfl) (fun X hX hr hE => ?_)
  have hX : FX l K X cX5_course RX5 3 74 0 0 := hX
  show GW X 0 [some (.ref 40), some (.int (nI m)), none] [] h n 0 0
  refine g_iconst (v := (nI 1)) hX dX5_course_0 (by decide) ?_
  refine g_istore_n (i := 2) hX dX5_course_1 rfl (Nat.le_of_ble_eq_true rfl) rfl ?_
  refine g_aload_n hX dX5_course_2 rfl rfl ?_
  refine g_iload_n hX dX5_course_3 rfl rfl ?_
  refine g_iload_n hX dX5_course_4 rfl rfl ?_
  refine g_callV (As := [.int (nI m), .int (nI 1)]) hX dX5_course_5 cb_X5_walk ml_X5_81 im_X5_walk se_X5_walk rfl rfl (m0) ⟨_, rfl, rfl⟩ (kX5_walk hst (m0) (mmn) (mcs) (mco) (mdg) (mrw) (mgo) (mwe) (by omega) (by omega) (by omega)) (Nat.le_of_ble_eq_true rfl) (Nat.le_of_ble_eq_true rfl) (by omega) (by omega) (Nat.le_of_ble_eq_true rfl) GX.no ?_
  rintro _ h1 _ - ⟨rfl, rfl, hk2⟩
  show GW X 8 [some (.ref 40), some (.int (nI m)), some (.int (nI 1))] [] h1 n 0 0
  obtain ⟨hk2K, co1, dg1, rw_1, go1, we1, q46_1, q47_1, q48_1, q49_1, q50_1, hco1, hdg1⟩ := id hk2
  refine (show ∀ h2, ((∀ j, j < 46 ∨ 50 < j → h2 j = (hs h 40 (oB 5 [.int thr, .int (nI rc), .ref 41, .ref 42, .ref 43, .int (nI mc), .ref 44, .ref 45, .int tch, .int frs, .ref 46, .ref 47, .int (nI ((0 + 1) * mn m)), .ref 48, .ref 49, .ref 50, .ref 51, .ref 56])) j) ∧ WD h2 (chM cs mn m) ((0 + 1) * mn m)) → GW X 8 [some (.ref 40), some (.int (nI m)), some (.int (nI (0 + 1)))] [] h2 n 0 0 from g_loop (P := fun (i : Nat) => ∀ h2, ((∀ j, j < 46 ∨ 50 < j → h2 j = (hs h 40 (oB 5 [.int thr, .int (nI rc), .ref 41, .ref 42, .ref 43, .int (nI mc), .ref 44, .ref 45, .int tch, .int frs, .ref 46, .ref 47, .int (nI ((i + 1) * mn m)), .ref 48, .ref 49, .ref 50, .ref 51, .ref 56])) j) ∧ WD h2 (chM cs mn m) ((i + 1) * mn m)) → GW X 8 [some (.ref 40), some (.int (nI m)), some (.int (nI (i + 1)))] [] h2 n 0 0) (fun i => mcr (chM cs mn m) (mn m) 5 1 = mcr (chM cs mn m) (mn m) (5 - i) (i + 1)) 5 rfl ?_ ?_) h1 ⟨fun j hj => (hk2K j (by omega)).trans (hs_cgj (rfl)), hk2.2⟩
  · intro i3 hi3 hIh4 ihi3 h4 hk5 
    obtain ⟨hk5K, co4, dg4, rw_4, go4, we4, q46_4, q47_4, q48_4, q49_4, q50_4, hco4, hdg4⟩ := id hk5
    have hb9 := Nat.mul_le_mul (show i3 + 1 ≤ 6 by omega) hmn
    refine g_aload_n hX dX5_course_8 rfl rfl ?_
    refine g_getf hX dX5_course_9 fl_X5_25 ((hk5K _ (by omega)).trans (hs_eq _ _ _)) rfl ?_
    refine g_aload_n hX dX5_course_12 rfl rfl ?_
    refine g_getf hX dX5_course_13 fl_X5_66 ((hk5K _ (by omega)).trans (hs_eq _ _ _)) rfl ?_
    refine g_iaload hX dX5_course_16 (q46_4) ((i3 + 1) * mn m) (by omega) rfl (by omega) ?_
    refine g_top (v' := .int (codI (chM cs mn m) ((i3 + 1) * mn m))) (congrArg Value.int (hco4 _ (by omega))) ?_
    refine g_sipush (v := (nI 1865)) hX dX5_course_17 (by decide) ?_
    refine g_icmp_eq (tgt := 35) hX dX5_course_20 (by decide) (fun c6 => ?_) (fun c6 => ?_)
    · refine g_iload_n hX dX5_course_35 rfl rfl ?_
      refine g_ireturn hX hr dX5_course_36 (Nat.le_refl _) (Nat.le_refl _)  ?_
      have hC : crM (chM cs mn m) (mn m) = i3 + 1 := hIh4.trans (mcr_end hi3 c6)
      exact ⟨by rw [hC], rfl, fun j hj => by rw [hC]; exact (hk5K j (by omega)).trans (hs_cgj (rfl)), by rw [hC]; exact hk5.2⟩
    · refine g_iinc (v := (nI ((i3 + 1) + 1))) hX dX5_course_23 rfl rfl (gn_inc _ _) ?_
      refine g_aload_n hX dX5_course_26 rfl rfl ?_
      refine g_iload_n hX dX5_course_27 rfl rfl ?_
      refine g_iload_n hX dX5_course_28 rfl rfl ?_
      refine g_callV (As := [.int (nI m), .int (nI ((i3 + 1) + 1))]) hX dX5_course_29 cb_X5_walk ml_X5_81 im_X5_walk se_X5_walk rfl rfl ((hk5K _ (by omega)).trans (hs_eq _ _ _)) ⟨_, rfl, rfl⟩ (kX5_walk hst ((hk5K _ (by omega)).trans (hs_eq _ _ _)) ((hk5K _ (by omega)).trans ((hs_ne (by omega)).trans (mmn))) ((hk5K _ (by omega)).trans ((hs_ne (by omega)).trans (mcs))) (q46_4) (q47_4) (q48_4) (q49_4) (q50_4) (by omega) (by omega) (by omega)) (Nat.le_of_ble_eq_true rfl) (Nat.le_of_ble_eq_true rfl) (by omega) (by omega) (Nat.le_of_ble_eq_true rfl) GX.no ?_
      rintro _ h7 _ - ⟨rfl, rfl, hk8⟩
      show GW X 32 [some (.ref 40), some (.int (nI m)), some (.int (nI ((i3 + 1) + 1)))] [] h7 n 0 0
      obtain ⟨hk8K, co7, dg7, rw_7, go7, we7, q46_7, q47_7, q48_7, q49_7, q50_7, hco7, hdg7⟩ := id hk8
      refine g_goto (tgt := 8) hX dX5_course_32 (by decide) ?_
      exact ihi3 (hIh4.trans (mcr_step hi3 c6)) h7 ⟨fun j hj => ((hk8K j (by omega)).trans (hs_cgj ((hk5K j (by omega)).trans (hs_cgj (rfl))))).trans (congrFun hs_hs j), hk8.2⟩
  · intro hIh9 h9 hk10 
    obtain ⟨hk10K, co9, dg9, rw_9, go9, we9, q46_9, q47_9, q48_9, q49_9, q50_9, hco9, hdg9⟩ := id hk10
    have hb9 := Nat.mul_le_mul (show 5 + 1 ≤ 6 by omega) hmn
    have hc9 : codI (chM cs mn m) ((5 + 1) * mn m) = nI 1865 := by
      have q := hcr
      unfold crM at q
      rw [hIh9] at q
      exact q
    refine g_aload_n hX dX5_course_8 rfl rfl ?_
    refine g_getf hX dX5_course_9 fl_X5_25 ((hk10K _ (by omega)).trans (hs_eq _ _ _)) rfl ?_
    refine g_aload_n hX dX5_course_12 rfl rfl ?_
    refine g_getf hX dX5_course_13 fl_X5_66 ((hk10K _ (by omega)).trans (hs_eq _ _ _)) rfl ?_
    refine g_iaload hX dX5_course_16 (q46_9) ((5 + 1) * mn m) (by omega) rfl (by omega) ?_
    refine g_top (v' := .int (codI (chM cs mn m) ((5 + 1) * mn m))) (congrArg Value.int (hco9 _ (by omega))) ?_
    refine g_sipush (v := (nI 1865)) hX dX5_course_17 (by decide) ?_
    refine g_icmp_eq (tgt := 35) hX dX5_course_20 (by decide) (fun c11 => ?_) (fun c11 => absurd c11 (fun q => q hc9))
    refine g_iload_n hX dX5_course_35 rfl rfl ?_
    refine g_ireturn hX hr dX5_course_36 (Nat.le_refl _) (Nat.le_refl _)  ?_
    have hC : crM (chM cs mn m) (mn m) = 5 + 1 := hIh9
    exact ⟨by rw [hC], rfl, fun j hj => by rw [hC]; exact (hk10K j (by omega)).trans (hs_cgj (rfl)), by rw [hC]; exact hk10.2⟩
set_option maxRecDepth 20000 in
theorem kX4_ring {l : Launch} {K : gw_K} (hst : l.stackTraces = false) {n : Nat} {h : gw_H} {t : Nat} {dy : Int32} {rc mc : Nat} {thr tch frs len : Int32} {mn : Nat → Nat} {sk cs co dg go we vt ti fa st rw_ : Nat → Int32} {b m L : Nat} (m0 : h 40 = (oB 5 [.int thr, .int (nI rc), .ref 41, .ref 42, .ref 43, .int (nI mc), .ref 44, .ref 45, .int tch, .int frs, .ref 46, .ref 47, .int len, .ref 48, .ref 49, .ref 50, .ref 51, .ref 56])) (msk : h 42 = (aI 20 sk)) (mmn : h 44 = (aI 5 (fun k => nI (mn k)))) (mcs : h 45 = (aI 60 cs)) (mco : h 46 = (aI 201 co)) (mdg : h 47 = (aI 201 dg)) (mrw : h 48 = (aI 6 rw_)) (mgo : h 49 = (aI 6 go)) (mwe : h 50 = (aI 6 we)) (s0 : h t = (oB 4 [.int dy, .ref (t + 1), .ref (t + 2), .ref (t + 3), .ref (t + 4), .ref 40])) (svt : h (t + 1) = (aI 20 vt)) (sti : h (t + 2) = (aI 20 ti)) (sfa : h (t + 3) = (aI 20 fa)) (sst : h (t + 4) = (aI 20 st)) (hrc : rc ≤ 20) (ht51 : 51 ≤ t) (hb3 : b < 3) (hm5 : m < 5) (hL : L ≤ 12) (hmn : mn m ≤ 12) (hso : ∀ r, r < rc → seatOK (st r)) : Ctr l K mX4_ring [.ref t, .int (nI b), .int (nI m), .int (nI L)] h n 0 0 (PWk (some (.int (untI (codI (chM cs mn m)) (L * mn m)))) (hs (hs (hs (hs h 40 (oB 5 [.int thr, .int (nI rc), .ref 41, .ref 42, .ref 43, .int (nI mc), .ref 44, .ref 45, .int tch, .int frs, .ref 46, .ref 47, .int (nI (L * mn m)), .ref 48, .ref 49, .ref 50, .ref 51, .ref 56])) (t + 1) (aI 20 ((mrI st sk (ddgI (chM cs mn m)) rc b (mmI (chM cs mn m) (L * mn m) L) (L * mn m) (ti, fa, vt)).2.2))) (t + 2) (aI 20 ((mrI st sk (ddgI (chM cs mn m)) rc b (mmI (chM cs mn m) (L * mn m) L) (L * mn m) (ti, fa, vt)).1))) (t + 3) (aI 20 ((mrI st sk (ddgI (chM cs mn m)) rc b (mmI (chM cs mn m) (L * mn m) L) (L * mn m) (ti, fa, vt)).2.1))) n (chM cs mn m) (L * mn m)) (PX0) := by
  refine Ctr.of hst pn_X4_ring (Nat.le_of_ble_eq_true rfl) (fun X hX hr hE => ?_)
  have hX : FX l K X cX4_ring RX4 3 74 0 0 := hX
  show GW X 0 [some (.ref t), some (.int (nI b)), some (.int (nI m)), some (.int (nI L)), none, none, none, none, none] [] h n 0 0
  have hnn9 := Nat.mul_le_mul hL hmn
  refine g_aload_n hX dX4_ring_0 rfl rfl ?_
  refine g_getf hX dX4_ring_1 fl_X4_3 (s0) rfl ?_
  refine g_iload_n hX dX4_ring_4 rfl rfl ?_
  refine g_iload_n hX dX4_ring_5 rfl rfl ?_
  refine g_callVN (As := [.int (nI m), .int (nI L)]) (host := "BellRosterModel") hX dX4_ring_6 cb_X5_walk mn_X4_58 im_X5_walk se_X5_walk rfl rfl (m0) ⟨_, rfl, rfl⟩ (kX5_walk hst (m0) (mmn) (mcs) (mco) (mdg) (mrw) (mgo) (mwe) (by omega) (by omega) (by omega)) (Nat.le_of_ble_eq_true rfl) (Nat.le_of_ble_eq_true rfl) (by omega) (by omega) (Nat.le_of_ble_eq_true rfl) GX.no ?_
  rintro _ h1 _ - ⟨rfl, rfl, hk2⟩
  show GW X 9 [some (.ref t), some (.int (nI b)), some (.int (nI m)), some (.int (nI L)), none, none, none, none, none] [] h1 n 0 0
  obtain ⟨hk2K, co1, dg1, rw_1, go1, we1, q46_1, q47_1, q48_1, q49_1, q50_1, hco1, hdg1⟩ := id hk2
  refine g_aload_n hX dX4_ring_9 rfl rfl ?_
  refine g_getf hX dX4_ring_10 fl_X4_3 ((hk2K _ (by omega)).trans ((hs_ne (by omega)).trans (s0))) rfl ?_
  refine g_callVN (As := []) (host := "BellRosterModel") hX dX4_ring_13 cb_X5_untrue mn_X4_62 im_X5_untrue se_X5_untrue rfl rfl ((hk2K _ (by omega)).trans (hs_eq _ _ _)) ⟨_, rfl, rfl⟩ (kX5_untrue hst ((hk2K _ (by omega)).trans (hs_eq _ _ _)) (q46_1) (by omega) (hco1)) (Nat.le_of_ble_eq_true rfl) (Nat.le_of_ble_eq_true rfl) (by omega) (by omega) (Nat.le_of_ble_eq_true rfl) GX.no (pq ?_)
  show GW X 16 [some (.ref t), some (.int (nI b)), some (.int (nI m)), some (.int (nI L)), none, none, none, none, none] [.int (untI (codI (chM cs mn m)) (L * (mn m)))] h1 n 0 0
  refine g_istore hX dX4_ring_16 (Nat.le_of_ble_eq_true rfl) rfl ?_
  refine g_iload hX dX4_ring_18 rfl ?_
  refine g_if_ne (tgt := 48) hX dX4_ring_20 (by decide) (fun c3 => ?_) (fun c3 => ?_)
  · refine g_iload hX dX4_ring_48 rfl ?_
    refine g_ineg hX dX4_ring_50 ?_
    refine g_istore hX dX4_ring_51 (Nat.le_of_ble_eq_true rfl) rfl ?_
    have hmo : mmI (chM cs mn m) (L * mn m) L = (-(untI (codI (chM cs mn m)) (L * (mn m)))) := if_neg (fun q => c3 q.1)
    refine g_cg (L' := [some (.ref t), some (.int (nI b)), some (.int (nI m)), some (.int (nI L)), some (.int (untI (codI (chM cs mn m)) (L * (mn m)))), some (.int (mmI (chM cs mn m) (L * mn m) L)), none, none, none]) (by rw [hmo]; rfl) rfl ?_
    refine g_iconst (v := (nI 0)) hX dX4_ring_53 (by decide) ?_
    refine g_istore hX dX4_ring_54 (Nat.le_of_ble_eq_true rfl) rfl ?_
    refine g_cg (h' := (hs h1 (t + 1) (aI 20 vt))) rfl (hs_id ((hk2K _ (by omega)).trans ((hs_ne (by omega)).trans (svt)))).symm ?_
    refine g_cg (h' := (hs (hs h1 (t + 1) (aI 20 vt)) (t + 2) (aI 20 ti))) rfl (hs_id ((hs_ne (by omega)).trans ((hk2K _ (by omega)).trans ((hs_ne (by omega)).trans (sti))))).symm ?_
    refine g_cg (h' := (hs (hs (hs h1 (t + 1) (aI 20 vt)) (t + 2) (aI 20 ti)) (t + 3) (aI 20 fa))) rfl (hs_id ((hs_ne (by omega)).trans ((hs_ne (by omega)).trans ((hk2K _ (by omega)).trans ((hs_ne (by omega)).trans (sfa)))))).symm ?_
    refine g_cg (L' := [some (.ref t), some (.int (nI b)), some (.int (nI m)), some (.int (nI L)), some (.int (untI (codI (chM cs mn m)) (L * (mn m)))), some (.int (mmI (chM cs mn m) (L * mn m) L)), some (.int (nI 0)), none, none]) (h' := (hs (hs (hs h1 (t + 1) (aI 20 (((ti, fa, vt) : TR).2.2))) (t + 2) (aI 20 (((ti, fa, vt) : TR).1))) (t + 3) (aI 20 (((ti, fa, vt) : TR).2.1)))) (by rfl) (by rfl) ?_
    refine g_for (P := fun (i : Nat) (s : TR) => GW X 56 [some (.ref t), some (.int (nI b)), some (.int (nI m)), some (.int (nI L)), some (.int (untI (codI (chM cs mn m)) (L * (mn m)))), some (.int (mmI (chM cs mn m) (L * mn m) L)), some (.int (nI i)), none, none] [] (hs (hs (hs h1 (t + 1) (aI 20 s.2.2)) (t + 2) (aI 20 s.1)) (t + 3) (aI 20 s.2.1)) n 0 0) (step := fun i s => mrP st sk (ddgI (chM cs mn m)) b (mmI (chM cs mn m) (L * mn m) L) (L * mn m) i s) rc ((ti, fa, vt) : TR) ?_ ?_
    · intro i4 s5 hi4 es5 ihi4
      have ihi4 : GW X 56 [some (.ref t), some (.int (nI b)), some (.int (nI m)), some (.int (nI L)), some (.int (untI (codI (chM cs mn m)) (L * (mn m)))), some (.int (mmI (chM cs mn m) (L * mn m) L)), some (.int (nI (i4 + 1))), none, none] [] (hs (hs (hs h1 (t + 1) (aI 20 ((mrP st sk (ddgI (chM cs mn m)) b (mmI (chM cs mn m) (L * mn m) L) (L * mn m) i4 s5).2.2))) (t + 2) (aI 20 ((mrP st sk (ddgI (chM cs mn m)) b (mmI (chM cs mn m) (L * mn m) L) (L * mn m) i4 s5).1))) (t + 3) (aI 20 ((mrP st sk (ddgI (chM cs mn m)) b (mmI (chM cs mn m) (L * mn m) L) (L * mn m) i4 s5).2.1))) n 0 0 := ihi4
      have hb9 := so_band (hso i4 hi4) hb3 (b := b)
      have hn9 := so_neg (hso i4 hi4)
      refine g_iload hX dX4_ring_56 rfl ?_
      refine g_aload_n hX dX4_ring_58 rfl rfl ?_
      refine g_getf hX dX4_ring_59 fl_X4_3 ((hs_ne (by omega)).trans ((hs_ne (by omega)).trans ((hs_ne (by omega)).trans ((hk2K _ (by omega)).trans ((hs_ne (by omega)).trans (s0)))))) rfl ?_
      refine g_getf hX dX4_ring_62 fl_X4_42 ((hs_ne (by omega)).trans ((hs_ne (by omega)).trans ((hs_ne (by omega)).trans ((hk2K _ (by omega)).trans (hs_eq _ _ _))))) rfl ?_
      refine g_icmp_geN (tgt := 248) hX dX4_ring_65 (by decide) (by omega) (fun c6 => absurd c6 (by omega)) (fun c6 => ?_)
      refine g_aload_n hX dX4_ring_68 rfl rfl ?_
      refine g_getf hX dX4_ring_69 fl_X4_25 ((hs_ne (by omega)).trans ((hs_ne (by omega)).trans ((hs_ne (by omega)).trans ((hk2K _ (by omega)).trans ((hs_ne (by omega)).trans (s0)))))) rfl ?_
      refine g_iload hX dX4_ring_72 rfl ?_
      refine g_iaload hX dX4_ring_74 ((hs_ne (by omega)).trans ((hs_ne (by omega)).trans ((hs_ne (by omega)).trans ((hk2K _ (by omega)).trans ((hs_ne (by omega)).trans (sst)))))) (i4) (by omega) rfl (by omega) ?_
      refine g_if_lt (tgt := 242) hX dX4_ring_75 (by decide) (fun c7 => ?_) (fun c7 => ?_)
      · refine g_iinc (v := (nI (i4 + 1))) hX dX4_ring_242 rfl rfl (gn_inc _ _) ?_
        refine g_goto (tgt := 56) hX dX4_ring_245 (by decide) ?_
        refine g_cv ihi4 rfl (by rw [mrP, if_neg (fun q => (hb9.mp q).1 c7)])
      · refine g_aload_n hX dX4_ring_78 rfl rfl ?_
        refine g_getf hX dX4_ring_79 fl_X4_25 ((hs_ne (by omega)).trans ((hs_ne (by omega)).trans ((hs_ne (by omega)).trans ((hk2K _ (by omega)).trans ((hs_ne (by omega)).trans (s0)))))) rfl ?_
        refine g_iload hX dX4_ring_82 rfl ?_
        refine g_iaload hX dX4_ring_84 ((hs_ne (by omega)).trans ((hs_ne (by omega)).trans ((hs_ne (by omega)).trans ((hk2K _ (by omega)).trans ((hs_ne (by omega)).trans (sst)))))) (i4) (by omega) rfl (by omega) ?_
        refine g_bipush (v := (nI 6)) hX dX4_ring_85 (by decide) ?_
        refine g_idiv hX dX4_ring_87 (by decide) ?_
        refine g_iload_n hX dX4_ring_88 rfl rfl ?_
        refine g_icmp_eq (tgt := 95) hX dX4_ring_89 (by decide) (fun c8 => ?_) (fun c8 => ?_)
        · have hbd9 : bandI (st i4) = nI b := hb9.mpr ⟨c7, c8⟩
          have hbn := bell_ok (hso i4 (by omega)) hb3 hbd9
          have hbn2 := hbn.2
          have hbl : st i4 - st i4 / nI 6 * nI 6 = nI (bellN (st i4)) := by
            rw [← hbn.1]; unfold bellI; rw [if_neg (fun q => c7 (hn9.mpr q))]
          refine g_iconst (v := (nI 0)) hX dX4_ring_95 (by decide) ?_
          refine g_istore hX dX4_ring_96 (Nat.le_of_ble_eq_true rfl) rfl ?_
          refine g_iconst (v := (nI 1)) hX dX4_ring_98 (by decide) ?_
          refine g_istore hX dX4_ring_99 (Nat.le_of_ble_eq_true rfl) rfl ?_
          refine g_cg (L' := [some (.ref t), some (.int (nI b)), some (.int (nI m)), some (.int (nI L)), some (.int (untI (codI (chM cs mn m)) (L * (mn m)))), some (.int (mmI (chM cs mn m) (L * mn m) L)), some (.int (nI i4)), some (.int (((s5.1, nI 0) : (Nat → Int32) × Int32).2)), some (.int (nI (0 + 1)))]) (h' := (hs (hs (hs h1 (t + 1) (aI 20 s5.2.2)) (t + 2) (aI 20 (((s5.1, nI 0) : (Nat → Int32) × Int32).1))) (t + 3) (aI 20 s5.2.1))) (by rfl) (by rfl) ?_
          refine g_for (P := fun (i : Nat) (s : (Nat → Int32) × Int32) => GW X 101 [some (.ref t), some (.int (nI b)), some (.int (nI m)), some (.int (nI L)), some (.int (untI (codI (chM cs mn m)) (L * (mn m)))), some (.int (mmI (chM cs mn m) (L * mn m) L)), some (.int (nI i4)), some (.int s.2), some (.int (nI (i + 1)))] [] (hs (hs (hs h1 (t + 1) (aI 20 s5.2.2)) (t + 2) (aI 20 s.1)) (t + 3) (aI 20 s5.2.1)) n 0 0) (step := fun i s => tkP (ddgI (chM cs mn m)) sk (bellN (st i4)) i4 i s) (L * mn m) ((s5.1, nI 0) : (Nat → Int32) × Int32) ?_ ?_
          · intro i9 ⟨as10, os10⟩ hi9 es10 ihi9
            have ihi9 : GW X 101 [some (.ref t), some (.int (nI b)), some (.int (nI m)), some (.int (nI L)), some (.int (untI (codI (chM cs mn m)) (L * (mn m)))), some (.int (mmI (chM cs mn m) (L * mn m) L)), some (.int (nI i4)), some (.int ((tkP (ddgI (chM cs mn m)) sk (bellN (st i4)) i4 i9 (as10, os10)).2)), some (.int (nI (i9 + 1 + 1)))] [] (hs (hs (hs h1 (t + 1) (aI 20 s5.2.2)) (t + 2) (aI 20 ((tkP (ddgI (chM cs mn m)) sk (bellN (st i4)) i4 i9 (as10, os10)).1))) (t + 3) (aI 20 s5.2.1)) n 0 0 := ihi9
            refine g_iload hX dX4_ring_101 rfl ?_
            refine g_aload_n hX dX4_ring_103 rfl rfl ?_
            refine g_getf hX dX4_ring_104 fl_X4_3 ((hs_ne (by omega)).trans ((hs_ne (by omega)).trans ((hs_ne (by omega)).trans ((hk2K _ (by omega)).trans ((hs_ne (by omega)).trans (s0)))))) rfl ?_
            refine g_getf hX dX4_ring_107 fl_X4_69 ((hs_ne (by omega)).trans ((hs_ne (by omega)).trans ((hs_ne (by omega)).trans ((hk2K _ (by omega)).trans (hs_eq _ _ _))))) rfl ?_
            refine g_icmp_gtN (tgt := 201) hX dX4_ring_110 (by decide) (by omega) (fun c11 => absurd c11 (by omega)) (fun c11 => ?_)
            refine g_aload_n hX dX4_ring_113 rfl rfl ?_
            refine g_getf hX dX4_ring_114 fl_X4_3 ((hs_ne (by omega)).trans ((hs_ne (by omega)).trans ((hs_ne (by omega)).trans ((hk2K _ (by omega)).trans ((hs_ne (by omega)).trans (s0)))))) rfl ?_
            refine g_getf hX dX4_ring_117 fl_X4_72 ((hs_ne (by omega)).trans ((hs_ne (by omega)).trans ((hs_ne (by omega)).trans ((hk2K _ (by omega)).trans (hs_eq _ _ _))))) rfl ?_
            refine g_iload hX dX4_ring_120 rfl ?_
            refine g_iaload hX dX4_ring_122 ((hs_ne (by omega)).trans ((hs_ne (by omega)).trans ((hs_ne (by omega)).trans (q47_1)))) (i9 + 1) (by omega) rfl (by omega) ?_
            refine g_top (v' := .int (ddgI (chM cs mn m) i9)) (congrArg Value.int (hdg1 _ (by omega))) ?_
            refine g_aload_n hX dX4_ring_123 rfl rfl ?_
            refine g_getf hX dX4_ring_124 fl_X4_25 ((hs_ne (by omega)).trans ((hs_ne (by omega)).trans ((hs_ne (by omega)).trans ((hk2K _ (by omega)).trans ((hs_ne (by omega)).trans (s0)))))) rfl ?_
            refine g_iload hX dX4_ring_127 rfl ?_
            refine g_iaload hX dX4_ring_129 ((hs_ne (by omega)).trans ((hs_ne (by omega)).trans ((hs_ne (by omega)).trans ((hk2K _ (by omega)).trans ((hs_ne (by omega)).trans (sst)))))) (i4) (by omega) rfl (by omega) ?_
            refine g_bipush (v := (nI 6)) hX dX4_ring_130 (by decide) ?_
            refine g_irem hX dX4_ring_132 (by decide) ?_
            refine g_top (v' := .int (nI (bellN (st i4)))) (by rw [hbl]) ?_
            refine g_ishr hX dX4_ring_133 ?_
            refine g_iconst (v := (nI 1)) hX dX4_ring_134 (by decide) ?_
            refine g_iand hX dX4_ring_135 ?_
            refine g_if_ne (tgt := 142) hX dX4_ring_136 (by decide) (fun c12 => ?_) (fun c12 => ?_)
            · refine g_aload_n hX dX4_ring_142 rfl rfl ?_
              refine g_getf hX dX4_ring_143 fl_X4_19 ((hs_ne (by omega)).trans ((hs_ne (by omega)).trans ((hs_ne (by omega)).trans ((hk2K _ (by omega)).trans ((hs_ne (by omega)).trans (s0)))))) rfl ?_
              refine g_iload hX dX4_ring_146 rfl ?_
              refine g_bipush (v := (nI 20)) hX dX4_ring_148 (by decide) ?_
              refine g_aload_n hX dX4_ring_150 rfl rfl ?_
              refine g_getf hX dX4_ring_151 fl_X4_19 ((hs_ne (by omega)).trans ((hs_ne (by omega)).trans ((hs_ne (by omega)).trans ((hk2K _ (by omega)).trans ((hs_ne (by omega)).trans (s0)))))) rfl ?_
              refine g_iload hX dX4_ring_154 rfl ?_
              refine g_iaload hX dX4_ring_156 ((hs_ne (by omega)).trans (hs_eq _ _ _)) (i4) (by omega) rfl (by omega) ?_
              refine g_iconst (v := (nI 1)) hX dX4_ring_157 (by decide) ?_
              refine g_iadd hX dX4_ring_158 ?_
              refine g_mmin hX dX4_ring_159 ml_X4_75 w_mminS w_mI w_mminC (Nat.le_of_ble_eq_true rfl) (Nat.le_of_ble_eq_true rfl) (by omega) (by omega) ?_
              refine g_iastore hX dX4_ring_162 ((hs_ne (by omega)).trans (hs_eq _ _ _)) (i4) (by omega) rfl (by omega) ?_
              refine g_iload hX dX4_ring_163 rfl ?_
              refine g_aload_n hX dX4_ring_165 rfl rfl ?_
              refine g_getf hX dX4_ring_166 fl_X4_19 ((hs_ne (by omega)).trans ((hs_ne (by omega)).trans ((hs_ne (by omega)).trans ((hs_ne (by omega)).trans ((hk2K _ (by omega)).trans ((hs_ne (by omega)).trans (s0))))))) rfl ?_
              refine g_iload hX dX4_ring_169 rfl ?_
              refine g_iaload hX dX4_ring_171 (hs_eq _ _ _) (i4) (by omega) rfl (by omega) ?_
              refine g_top (v' := .int (if ((as10 i4) + (nI 1)) < (nI 20) then ((as10 i4) + (nI 1)) else (nI 20))) (congrArg Value.int pk_us) ?_
              refine g_iconst (v := (nI 2)) hX dX4_ring_172 (by decide) ?_
              refine g_aload_n hX dX4_ring_173 rfl rfl ?_
              refine g_getf hX dX4_ring_174 fl_X4_3 ((hs_ne (by omega)).trans ((hs_ne (by omega)).trans ((hs_ne (by omega)).trans ((hs_ne (by omega)).trans ((hk2K _ (by omega)).trans ((hs_ne (by omega)).trans (s0))))))) rfl ?_
              refine g_getf hX dX4_ring_177 fl_X4_81 ((hs_ne (by omega)).trans ((hs_ne (by omega)).trans ((hs_ne (by omega)).trans ((hs_ne (by omega)).trans ((hk2K _ (by omega)).trans (hs_eq _ _ _)))))) rfl ?_
              refine g_iload hX dX4_ring_180 rfl ?_
              refine g_iaload hX dX4_ring_182 ((hs_ne (by omega)).trans ((hs_ne (by omega)).trans ((hs_ne (by omega)).trans ((hs_ne (by omega)).trans ((hk2K _ (by omega)).trans ((hs_ne (by omega)).trans (msk))))))) (i4) (by omega) rfl (by omega) ?_
              refine g_imul hX dX4_ring_183 ?_
              refine g_icmp_le (tgt := 191) hX dX4_ring_184 (by decide) (fun c13 => ?_) (fun c13 => ?_)
              · refine g_iconst (v := (nI 0)) hX dX4_ring_191 (by decide) ?_
                refine g_iadd hX dX4_ring_192 ?_
                refine g_istore hX dX4_ring_193 (Nat.le_of_ble_eq_true rfl) rfl ?_
                refine g_iinc (v := (nI ((i9 + 1) + 1))) hX dX4_ring_195 rfl rfl (gn_inc _ _) ?_
                refine g_goto (tgt := 101) hX dX4_ring_198 (by decide) ?_
                refine g_cg (h' := (hs (hs (hs h1 (t + 1) (aI 20 s5.2.2)) (t + 2) (aI 20 (upd as10 i4 (if ((as10 i4) + (nI 1)) < (nI 20) then ((as10 i4) + (nI 1)) else (nI 20))))) (t + 3) (aI 20 s5.2.1))) rfl (by rw [hs_cm (k := t + 2) (j := t + 3) _ _ _ (by omega), hs_hs (k := t + 2)]) ?_
                have eT : tkP (ddgI (chM cs mn m)) sk (bellN (st i4)) i4 i9 (as10, os10) = (upd as10 i4 (tiredV (as10 i4)), os10 + nI 0) := (if_neg c12).trans (congrArg (Prod.mk _) (if_neg (gn_ile.mpr c13)))
                refine g_cv ihi9 (by first | (rw [eT]; done) | (rw [eT]; rfl)) (by first | (rw [eT]; done) | (rw [eT]; rfl))
              · refine g_iconst (v := (nI 1)) hX dX4_ring_187 (by decide) ?_
                refine g_goto (tgt := 192) hX dX4_ring_188 (by decide) ?_
                refine g_iadd hX dX4_ring_192 ?_
                refine g_istore hX dX4_ring_193 (Nat.le_of_ble_eq_true rfl) rfl ?_
                refine g_iinc (v := (nI ((i9 + 1) + 1))) hX dX4_ring_195 rfl rfl (gn_inc _ _) ?_
                refine g_goto (tgt := 101) hX dX4_ring_198 (by decide) ?_
                refine g_cg (h' := (hs (hs (hs h1 (t + 1) (aI 20 s5.2.2)) (t + 2) (aI 20 (upd as10 i4 (if ((as10 i4) + (nI 1)) < (nI 20) then ((as10 i4) + (nI 1)) else (nI 20))))) (t + 3) (aI 20 s5.2.1))) rfl (by rw [hs_cm (k := t + 2) (j := t + 3) _ _ _ (by omega), hs_hs (k := t + 2)]) ?_
                have eT : tkP (ddgI (chM cs mn m)) sk (bellN (st i4)) i4 i9 (as10, os10) = (upd as10 i4 (tiredV (as10 i4)), os10 + nI 1) := (if_neg c12).trans (congrArg (Prod.mk _) (if_pos (gn_ilt.mp c13)))
                refine g_cv ihi9 (by first | (rw [eT]; done) | (rw [eT]; rfl)) (by first | (rw [eT]; done) | (rw [eT]; rfl))
            · refine g_goto (tgt := 195) hX dX4_ring_139 (by decide) ?_
              refine g_iinc (v := (nI ((i9 + 1) + 1))) hX dX4_ring_195 rfl rfl (gn_inc _ _) ?_
              refine g_goto (tgt := 101) hX dX4_ring_198 (by decide) ?_
              have eT : tkP (ddgI (chM cs mn m)) sk (bellN (st i4)) i4 i9 (as10, os10) = (as10, os10) := if_pos c12
              refine g_cv ihi9 (by first | (rw [eT]; done) | (rw [eT]; rfl)) (by first | (rw [eT]; done) | (rw [eT]; rfl))
          · refine g_iload hX dX4_ring_101 rfl ?_
            refine g_aload_n hX dX4_ring_103 rfl rfl ?_
            refine g_getf hX dX4_ring_104 fl_X4_3 ((hs_ne (by omega)).trans ((hs_ne (by omega)).trans ((hs_ne (by omega)).trans ((hk2K _ (by omega)).trans ((hs_ne (by omega)).trans (s0)))))) rfl ?_
            refine g_getf hX dX4_ring_107 fl_X4_69 ((hs_ne (by omega)).trans ((hs_ne (by omega)).trans ((hs_ne (by omega)).trans ((hk2K _ (by omega)).trans (hs_eq _ _ _))))) rfl ?_
            refine g_icmp_gtN (tgt := 201) hX dX4_ring_110 (by decide) (by omega) (fun c14 => ?_) (fun c14 => absurd c14 (by omega))
            refine g_aload_n hX dX4_ring_201 rfl rfl ?_
            refine g_getf hX dX4_ring_202 fl_X4_22 ((hs_ne (by omega)).trans ((hs_ne (by omega)).trans ((hs_ne (by omega)).trans ((hk2K _ (by omega)).trans ((hs_ne (by omega)).trans (s0)))))) rfl ?_
            refine g_iload hX dX4_ring_205 rfl ?_
            refine g_dup2 hX dX4_ring_207 rfl rfl ?_
            refine g_iaload hX dX4_ring_208 (hs_eq _ _ _) (i4) (by omega) rfl (by omega) ?_
            refine g_iload hX dX4_ring_209 rfl ?_
            refine g_iadd hX dX4_ring_211 ?_
            refine g_iastore hX dX4_ring_212 (hs_eq _ _ _) (i4) (by omega) rfl (by omega) ?_
            refine g_cg rfl hs_hs ?_
            refine g_aload_n hX dX4_ring_213 rfl rfl ?_
            refine g_getf hX dX4_ring_214 fl_X4_15 ((hs_ne (by omega)).trans ((hs_ne (by omega)).trans ((hs_ne (by omega)).trans ((hk2K _ (by omega)).trans ((hs_ne (by omega)).trans (s0)))))) rfl ?_
            refine g_iload hX dX4_ring_217 rfl ?_
            refine g_iconst (v := (nI 0)) hX dX4_ring_219 (by decide) ?_
            refine g_bipush (v := (nI 99)) hX dX4_ring_220 (by decide) ?_
            refine g_aload_n hX dX4_ring_222 rfl rfl ?_
            refine g_getf hX dX4_ring_223 fl_X4_15 ((hs_ne (by omega)).trans ((hs_ne (by omega)).trans ((hs_ne (by omega)).trans ((hk2K _ (by omega)).trans ((hs_ne (by omega)).trans (s0)))))) rfl ?_
            refine g_iload hX dX4_ring_226 rfl ?_
            refine g_iaload hX dX4_ring_228 ((hs_ne (by omega)).trans ((hs_ne (by omega)).trans (hs_eq _ _ _))) (i4) (by omega) rfl (by omega) ?_
            refine g_iload hX dX4_ring_229 rfl ?_
            refine g_iadd hX dX4_ring_231 ?_
            refine g_iload hX dX4_ring_232 rfl ?_
            refine g_isub hX dX4_ring_234 ?_
            refine g_mmin hX dX4_ring_235 ml_X4_75 w_mminS w_mI w_mminC (Nat.le_of_ble_eq_true rfl) (Nat.le_of_ble_eq_true rfl) (by omega) (by omega) ?_
            refine g_mmax hX dX4_ring_238 ml_X4_84 w_mmaxS w_mI w_mmaxC (Nat.le_of_ble_eq_true rfl) (Nat.le_of_ble_eq_true rfl) (by omega) (by omega) ?_
            refine g_iastore hX dX4_ring_241 ((hs_ne (by omega)).trans ((hs_ne (by omega)).trans (hs_eq _ _ _))) (i4) (by omega) rfl (by omega) ?_
            refine g_iinc (v := (nI (i4 + 1))) hX dX4_ring_242 rfl rfl (gn_inc _ _) ?_
            refine g_goto (tgt := 56) hX dX4_ring_245 (by decide) ?_
            refine g_kill 7 ?_
            refine g_kill 8 ?_
            refine g_cg (h' := (hs (hs (hs h1 (t + 1) (aI 20 (upd s5.2.2 i4 (if (nI 0) < (if (((s5.2.2 i4) + (mmI (chM cs mn m) (L * mn m) L)) - (itr (fun i s => tkP (ddgI (chM cs mn m)) sk (bellN (st i4)) i4 i s) (L * mn m) ((s5.1, nI 0) : (Nat → Int32) × Int32)).2) < (nI 99) then (((s5.2.2 i4) + (mmI (chM cs mn m) (L * mn m) L)) - (itr (fun i s => tkP (ddgI (chM cs mn m)) sk (bellN (st i4)) i4 i s) (L * mn m) ((s5.1, nI 0) : (Nat → Int32) × Int32)).2) else (nI 99)) then (if (((s5.2.2 i4) + (mmI (chM cs mn m) (L * mn m) L)) - (itr (fun i s => tkP (ddgI (chM cs mn m)) sk (bellN (st i4)) i4 i s) (L * mn m) ((s5.1, nI 0) : (Nat → Int32) × Int32)).2) < (nI 99) then (((s5.2.2 i4) + (mmI (chM cs mn m) (L * mn m) L)) - (itr (fun i s => tkP (ddgI (chM cs mn m)) sk (bellN (st i4)) i4 i s) (L * mn m) ((s5.1, nI 0) : (Nat → Int32) × Int32)).2) else (nI 99)) else (nI 0))))) (t + 2) (aI 20 ((itr (fun i s => tkP (ddgI (chM cs mn m)) sk (bellN (st i4)) i4 i s) (L * mn m) ((s5.1, nI 0) : (Nat → Int32) × Int32)).1))) (t + 3) (aI 20 (upd s5.2.1 i4 ((s5.2.1 i4) + (itr (fun i s => tkP (ddgI (chM cs mn m)) sk (bellN (st i4)) i4 i s) (L * mn m) ((s5.1, nI 0) : (Nat → Int32) × Int32)).2))))) rfl (by rw [hs_cm (k := t + 1) (j := t + 3) _ _ _ (by omega), hs_cm (k := t + 1) (j := t + 2) _ _ _ (by omega), hs_hs (k := t + 1)]) ?_
            refine g_cv ihi4 rfl (by rw [mrP, if_pos hbd9]; rfl)
        · refine g_goto (tgt := 242) hX dX4_ring_92 (by decide) ?_
          refine g_iinc (v := (nI (i4 + 1))) hX dX4_ring_242 rfl rfl (gn_inc _ _) ?_
          refine g_goto (tgt := 56) hX dX4_ring_245 (by decide) ?_
          refine g_cv ihi4 rfl (by rw [mrP, if_neg (fun q => c8 (hb9.mp q).2)])
    · refine g_iload hX dX4_ring_56 rfl ?_
      refine g_aload_n hX dX4_ring_58 rfl rfl ?_
      refine g_getf hX dX4_ring_59 fl_X4_3 ((hs_ne (by omega)).trans ((hs_ne (by omega)).trans ((hs_ne (by omega)).trans ((hk2K _ (by omega)).trans ((hs_ne (by omega)).trans (s0)))))) rfl ?_
      refine g_getf hX dX4_ring_62 fl_X4_42 ((hs_ne (by omega)).trans ((hs_ne (by omega)).trans ((hs_ne (by omega)).trans ((hk2K _ (by omega)).trans (hs_eq _ _ _))))) rfl ?_
      refine g_icmp_geN (tgt := 248) hX dX4_ring_65 (by decide) (by omega) (fun c15 => ?_) (fun c15 => absurd c15 (by omega))
      refine g_iload hX dX4_ring_248 rfl ?_
      refine g_ireturn hX hr dX4_ring_250 (Nat.le_refl _) (Nat.le_refl _)  ?_
      exact ⟨rfl, rfl, fun j hj => hs_cgj (hs_cgj (hs_cgj ((hk2K j (by omega)).trans (hs_cgj (rfl))))), WD_hs (by omega) (WD_hs (by omega) (WD_hs (by omega) (hk2.2)))⟩
  · refine g_aload_n hX dX4_ring_23 rfl rfl ?_
    refine g_getf hX dX4_ring_24 fl_X4_3 ((hk2K _ (by omega)).trans ((hs_ne (by omega)).trans (s0))) rfl ?_
    refine g_getf hX dX4_ring_27 fl_X4_66 ((hk2K _ (by omega)).trans (hs_eq _ _ _)) rfl ?_
    refine g_aload_n hX dX4_ring_30 rfl rfl ?_
    refine g_getf hX dX4_ring_31 fl_X4_3 ((hk2K _ (by omega)).trans ((hs_ne (by omega)).trans (s0))) rfl ?_
    refine g_getf hX dX4_ring_34 fl_X4_69 ((hk2K _ (by omega)).trans (hs_eq _ _ _)) rfl ?_
    refine g_iaload hX dX4_ring_37 (q46_1) (L * (mn m)) (by omega) rfl (by omega) ?_
    refine g_top (v' := .int (codI (chM cs mn m) (L * (mn m)))) (congrArg Value.int (hco1 _ (by omega))) ?_
    refine g_sipush (v := (nI 1865)) hX dX4_ring_38 (by decide) ?_
    refine g_icmp_ne (tgt := 48) hX dX4_ring_41 (by decide) (fun c16 => ?_) (fun c16 => ?_)
    · refine g_iload hX dX4_ring_48 rfl ?_
      refine g_ineg hX dX4_ring_50 ?_
      refine g_istore hX dX4_ring_51 (Nat.le_of_ble_eq_true rfl) rfl ?_
      have hmo : mmI (chM cs mn m) (L * mn m) L = (-(untI (codI (chM cs mn m)) (L * (mn m)))) := if_neg (fun q => c16 q.2)
      refine g_cg (L' := [some (.ref t), some (.int (nI b)), some (.int (nI m)), some (.int (nI L)), some (.int (untI (codI (chM cs mn m)) (L * (mn m)))), some (.int (mmI (chM cs mn m) (L * mn m) L)), none, none, none]) (by rw [hmo]; rfl) rfl ?_
      refine g_iconst (v := (nI 0)) hX dX4_ring_53 (by decide) ?_
      refine g_istore hX dX4_ring_54 (Nat.le_of_ble_eq_true rfl) rfl ?_
      refine g_cg (h' := (hs h1 (t + 1) (aI 20 vt))) rfl (hs_id ((hk2K _ (by omega)).trans ((hs_ne (by omega)).trans (svt)))).symm ?_
      refine g_cg (h' := (hs (hs h1 (t + 1) (aI 20 vt)) (t + 2) (aI 20 ti))) rfl (hs_id ((hs_ne (by omega)).trans ((hk2K _ (by omega)).trans ((hs_ne (by omega)).trans (sti))))).symm ?_
      refine g_cg (h' := (hs (hs (hs h1 (t + 1) (aI 20 vt)) (t + 2) (aI 20 ti)) (t + 3) (aI 20 fa))) rfl (hs_id ((hs_ne (by omega)).trans ((hs_ne (by omega)).trans ((hk2K _ (by omega)).trans ((hs_ne (by omega)).trans (sfa)))))).symm ?_
      refine g_cg (L' := [some (.ref t), some (.int (nI b)), some (.int (nI m)), some (.int (nI L)), some (.int (untI (codI (chM cs mn m)) (L * (mn m)))), some (.int (mmI (chM cs mn m) (L * mn m) L)), some (.int (nI 0)), none, none]) (h' := (hs (hs (hs h1 (t + 1) (aI 20 (((ti, fa, vt) : TR).2.2))) (t + 2) (aI 20 (((ti, fa, vt) : TR).1))) (t + 3) (aI 20 (((ti, fa, vt) : TR).2.1)))) (by rfl) (by rfl) ?_
      refine g_for (P := fun (i : Nat) (s : TR) => GW X 56 [some (.ref t), some (.int (nI b)), some (.int (nI m)), some (.int (nI L)), some (.int (untI (codI (chM cs mn m)) (L * (mn m)))), some (.int (mmI (chM cs mn m) (L * mn m) L)), some (.int (nI i)), none, none] [] (hs (hs (hs h1 (t + 1) (aI 20 s.2.2)) (t + 2) (aI 20 s.1)) (t + 3) (aI 20 s.2.1)) n 0 0) (step := fun i s => mrP st sk (ddgI (chM cs mn m)) b (mmI (chM cs mn m) (L * mn m) L) (L * mn m) i s) rc ((ti, fa, vt) : TR) ?_ ?_
      · intro i17 s18 hi17 es18 ihi17
        have ihi17 : GW X 56 [some (.ref t), some (.int (nI b)), some (.int (nI m)), some (.int (nI L)), some (.int (untI (codI (chM cs mn m)) (L * (mn m)))), some (.int (mmI (chM cs mn m) (L * mn m) L)), some (.int (nI (i17 + 1))), none, none] [] (hs (hs (hs h1 (t + 1) (aI 20 ((mrP st sk (ddgI (chM cs mn m)) b (mmI (chM cs mn m) (L * mn m) L) (L * mn m) i17 s18).2.2))) (t + 2) (aI 20 ((mrP st sk (ddgI (chM cs mn m)) b (mmI (chM cs mn m) (L * mn m) L) (L * mn m) i17 s18).1))) (t + 3) (aI 20 ((mrP st sk (ddgI (chM cs mn m)) b (mmI (chM cs mn m) (L * mn m) L) (L * mn m) i17 s18).2.1))) n 0 0 := ihi17
        have hb9 := so_band (hso i17 hi17) hb3 (b := b)
        have hn9 := so_neg (hso i17 hi17)
        refine g_iload hX dX4_ring_56 rfl ?_
        refine g_aload_n hX dX4_ring_58 rfl rfl ?_
        refine g_getf hX dX4_ring_59 fl_X4_3 ((hs_ne (by omega)).trans ((hs_ne (by omega)).trans ((hs_ne (by omega)).trans ((hk2K _ (by omega)).trans ((hs_ne (by omega)).trans (s0)))))) rfl ?_
        refine g_getf hX dX4_ring_62 fl_X4_42 ((hs_ne (by omega)).trans ((hs_ne (by omega)).trans ((hs_ne (by omega)).trans ((hk2K _ (by omega)).trans (hs_eq _ _ _))))) rfl ?_
        refine g_icmp_geN (tgt := 248) hX dX4_ring_65 (by decide) (by omega) (fun c19 => absurd c19 (by omega)) (fun c19 => ?_)
        refine g_aload_n hX dX4_ring_68 rfl rfl ?_
        refine g_getf hX dX4_ring_69 fl_X4_25 ((hs_ne (by omega)).trans ((hs_ne (by omega)).trans ((hs_ne (by omega)).trans ((hk2K _ (by omega)).trans ((hs_ne (by omega)).trans (s0)))))) rfl ?_
        refine g_iload hX dX4_ring_72 rfl ?_
        refine g_iaload hX dX4_ring_74 ((hs_ne (by omega)).trans ((hs_ne (by omega)).trans ((hs_ne (by omega)).trans ((hk2K _ (by omega)).trans ((hs_ne (by omega)).trans (sst)))))) (i17) (by omega) rfl (by omega) ?_
        refine g_if_lt (tgt := 242) hX dX4_ring_75 (by decide) (fun c20 => ?_) (fun c20 => ?_)
        · refine g_iinc (v := (nI (i17 + 1))) hX dX4_ring_242 rfl rfl (gn_inc _ _) ?_
          refine g_goto (tgt := 56) hX dX4_ring_245 (by decide) ?_
          refine g_cv ihi17 rfl (by rw [mrP, if_neg (fun q => (hb9.mp q).1 c20)])
        · refine g_aload_n hX dX4_ring_78 rfl rfl ?_
          refine g_getf hX dX4_ring_79 fl_X4_25 ((hs_ne (by omega)).trans ((hs_ne (by omega)).trans ((hs_ne (by omega)).trans ((hk2K _ (by omega)).trans ((hs_ne (by omega)).trans (s0)))))) rfl ?_
          refine g_iload hX dX4_ring_82 rfl ?_
          refine g_iaload hX dX4_ring_84 ((hs_ne (by omega)).trans ((hs_ne (by omega)).trans ((hs_ne (by omega)).trans ((hk2K _ (by omega)).trans ((hs_ne (by omega)).trans (sst)))))) (i17) (by omega) rfl (by omega) ?_
          refine g_bipush (v := (nI 6)) hX dX4_ring_85 (by decide) ?_
          refine g_idiv hX dX4_ring_87 (by decide) ?_
          refine g_iload_n hX dX4_ring_88 rfl rfl ?_
          refine g_icmp_eq (tgt := 95) hX dX4_ring_89 (by decide) (fun c21 => ?_) (fun c21 => ?_)
          · have hbd9 : bandI (st i17) = nI b := hb9.mpr ⟨c20, c21⟩
            have hbn := bell_ok (hso i17 (by omega)) hb3 hbd9
            have hbn2 := hbn.2
            have hbl : st i17 - st i17 / nI 6 * nI 6 = nI (bellN (st i17)) := by
              rw [← hbn.1]; unfold bellI; rw [if_neg (fun q => c20 (hn9.mpr q))]
            refine g_iconst (v := (nI 0)) hX dX4_ring_95 (by decide) ?_
            refine g_istore hX dX4_ring_96 (Nat.le_of_ble_eq_true rfl) rfl ?_
            refine g_iconst (v := (nI 1)) hX dX4_ring_98 (by decide) ?_
            refine g_istore hX dX4_ring_99 (Nat.le_of_ble_eq_true rfl) rfl ?_
            refine g_cg (L' := [some (.ref t), some (.int (nI b)), some (.int (nI m)), some (.int (nI L)), some (.int (untI (codI (chM cs mn m)) (L * (mn m)))), some (.int (mmI (chM cs mn m) (L * mn m) L)), some (.int (nI i17)), some (.int (((s18.1, nI 0) : (Nat → Int32) × Int32).2)), some (.int (nI (0 + 1)))]) (h' := (hs (hs (hs h1 (t + 1) (aI 20 s18.2.2)) (t + 2) (aI 20 (((s18.1, nI 0) : (Nat → Int32) × Int32).1))) (t + 3) (aI 20 s18.2.1))) (by rfl) (by rfl) ?_
            refine g_for (P := fun (i : Nat) (s : (Nat → Int32) × Int32) => GW X 101 [some (.ref t), some (.int (nI b)), some (.int (nI m)), some (.int (nI L)), some (.int (untI (codI (chM cs mn m)) (L * (mn m)))), some (.int (mmI (chM cs mn m) (L * mn m) L)), some (.int (nI i17)), some (.int s.2), some (.int (nI (i + 1)))] [] (hs (hs (hs h1 (t + 1) (aI 20 s18.2.2)) (t + 2) (aI 20 s.1)) (t + 3) (aI 20 s18.2.1)) n 0 0) (step := fun i s => tkP (ddgI (chM cs mn m)) sk (bellN (st i17)) i17 i s) (L * mn m) ((s18.1, nI 0) : (Nat → Int32) × Int32) ?_ ?_
            · intro i22 ⟨as23, os23⟩ hi22 es23 ihi22
              have ihi22 : GW X 101 [some (.ref t), some (.int (nI b)), some (.int (nI m)), some (.int (nI L)), some (.int (untI (codI (chM cs mn m)) (L * (mn m)))), some (.int (mmI (chM cs mn m) (L * mn m) L)), some (.int (nI i17)), some (.int ((tkP (ddgI (chM cs mn m)) sk (bellN (st i17)) i17 i22 (as23, os23)).2)), some (.int (nI (i22 + 1 + 1)))] [] (hs (hs (hs h1 (t + 1) (aI 20 s18.2.2)) (t + 2) (aI 20 ((tkP (ddgI (chM cs mn m)) sk (bellN (st i17)) i17 i22 (as23, os23)).1))) (t + 3) (aI 20 s18.2.1)) n 0 0 := ihi22
              refine g_iload hX dX4_ring_101 rfl ?_
              refine g_aload_n hX dX4_ring_103 rfl rfl ?_
              refine g_getf hX dX4_ring_104 fl_X4_3 ((hs_ne (by omega)).trans ((hs_ne (by omega)).trans ((hs_ne (by omega)).trans ((hk2K _ (by omega)).trans ((hs_ne (by omega)).trans (s0)))))) rfl ?_
              refine g_getf hX dX4_ring_107 fl_X4_69 ((hs_ne (by omega)).trans ((hs_ne (by omega)).trans ((hs_ne (by omega)).trans ((hk2K _ (by omega)).trans (hs_eq _ _ _))))) rfl ?_
              refine g_icmp_gtN (tgt := 201) hX dX4_ring_110 (by decide) (by omega) (fun c24 => absurd c24 (by omega)) (fun c24 => ?_)
              refine g_aload_n hX dX4_ring_113 rfl rfl ?_
              refine g_getf hX dX4_ring_114 fl_X4_3 ((hs_ne (by omega)).trans ((hs_ne (by omega)).trans ((hs_ne (by omega)).trans ((hk2K _ (by omega)).trans ((hs_ne (by omega)).trans (s0)))))) rfl ?_
              refine g_getf hX dX4_ring_117 fl_X4_72 ((hs_ne (by omega)).trans ((hs_ne (by omega)).trans ((hs_ne (by omega)).trans ((hk2K _ (by omega)).trans (hs_eq _ _ _))))) rfl ?_
              refine g_iload hX dX4_ring_120 rfl ?_
              refine g_iaload hX dX4_ring_122 ((hs_ne (by omega)).trans ((hs_ne (by omega)).trans ((hs_ne (by omega)).trans (q47_1)))) (i22 + 1) (by omega) rfl (by omega) ?_
              refine g_top (v' := .int (ddgI (chM cs mn m) i22)) (congrArg Value.int (hdg1 _ (by omega))) ?_
              refine g_aload_n hX dX4_ring_123 rfl rfl ?_
              refine g_getf hX dX4_ring_124 fl_X4_25 ((hs_ne (by omega)).trans ((hs_ne (by omega)).trans ((hs_ne (by omega)).trans ((hk2K _ (by omega)).trans ((hs_ne (by omega)).trans (s0)))))) rfl ?_
              refine g_iload hX dX4_ring_127 rfl ?_
              refine g_iaload hX dX4_ring_129 ((hs_ne (by omega)).trans ((hs_ne (by omega)).trans ((hs_ne (by omega)).trans ((hk2K _ (by omega)).trans ((hs_ne (by omega)).trans (sst)))))) (i17) (by omega) rfl (by omega) ?_
              refine g_bipush (v := (nI 6)) hX dX4_ring_130 (by decide) ?_
              refine g_irem hX dX4_ring_132 (by decide) ?_
              refine g_top (v' := .int (nI (bellN (st i17)))) (by rw [hbl]) ?_
              refine g_ishr hX dX4_ring_133 ?_
              refine g_iconst (v := (nI 1)) hX dX4_ring_134 (by decide) ?_
              refine g_iand hX dX4_ring_135 ?_
              refine g_if_ne (tgt := 142) hX dX4_ring_136 (by decide) (fun c25 => ?_) (fun c25 => ?_)
              · refine g_aload_n hX dX4_ring_142 rfl rfl ?_
                refine g_getf hX dX4_ring_143 fl_X4_19 ((hs_ne (by omega)).trans ((hs_ne (by omega)).trans ((hs_ne (by omega)).trans ((hk2K _ (by omega)).trans ((hs_ne (by omega)).trans (s0)))))) rfl ?_
                refine g_iload hX dX4_ring_146 rfl ?_
                refine g_bipush (v := (nI 20)) hX dX4_ring_148 (by decide) ?_
                refine g_aload_n hX dX4_ring_150 rfl rfl ?_
                refine g_getf hX dX4_ring_151 fl_X4_19 ((hs_ne (by omega)).trans ((hs_ne (by omega)).trans ((hs_ne (by omega)).trans ((hk2K _ (by omega)).trans ((hs_ne (by omega)).trans (s0)))))) rfl ?_
                refine g_iload hX dX4_ring_154 rfl ?_
                refine g_iaload hX dX4_ring_156 ((hs_ne (by omega)).trans (hs_eq _ _ _)) (i17) (by omega) rfl (by omega) ?_
                refine g_iconst (v := (nI 1)) hX dX4_ring_157 (by decide) ?_
                refine g_iadd hX dX4_ring_158 ?_
                refine g_mmin hX dX4_ring_159 ml_X4_75 w_mminS w_mI w_mminC (Nat.le_of_ble_eq_true rfl) (Nat.le_of_ble_eq_true rfl) (by omega) (by omega) ?_
                refine g_iastore hX dX4_ring_162 ((hs_ne (by omega)).trans (hs_eq _ _ _)) (i17) (by omega) rfl (by omega) ?_
                refine g_iload hX dX4_ring_163 rfl ?_
                refine g_aload_n hX dX4_ring_165 rfl rfl ?_
                refine g_getf hX dX4_ring_166 fl_X4_19 ((hs_ne (by omega)).trans ((hs_ne (by omega)).trans ((hs_ne (by omega)).trans ((hs_ne (by omega)).trans ((hk2K _ (by omega)).trans ((hs_ne (by omega)).trans (s0))))))) rfl ?_
                refine g_iload hX dX4_ring_169 rfl ?_
                refine g_iaload hX dX4_ring_171 (hs_eq _ _ _) (i17) (by omega) rfl (by omega) ?_
                refine g_top (v' := .int (if ((as23 i17) + (nI 1)) < (nI 20) then ((as23 i17) + (nI 1)) else (nI 20))) (congrArg Value.int pk_us) ?_
                refine g_iconst (v := (nI 2)) hX dX4_ring_172 (by decide) ?_
                refine g_aload_n hX dX4_ring_173 rfl rfl ?_
                refine g_getf hX dX4_ring_174 fl_X4_3 ((hs_ne (by omega)).trans ((hs_ne (by omega)).trans ((hs_ne (by omega)).trans ((hs_ne (by omega)).trans ((hk2K _ (by omega)).trans ((hs_ne (by omega)).trans (s0))))))) rfl ?_
                refine g_getf hX dX4_ring_177 fl_X4_81 ((hs_ne (by omega)).trans ((hs_ne (by omega)).trans ((hs_ne (by omega)).trans ((hs_ne (by omega)).trans ((hk2K _ (by omega)).trans (hs_eq _ _ _)))))) rfl ?_
                refine g_iload hX dX4_ring_180 rfl ?_
                refine g_iaload hX dX4_ring_182 ((hs_ne (by omega)).trans ((hs_ne (by omega)).trans ((hs_ne (by omega)).trans ((hs_ne (by omega)).trans ((hk2K _ (by omega)).trans ((hs_ne (by omega)).trans (msk))))))) (i17) (by omega) rfl (by omega) ?_
                refine g_imul hX dX4_ring_183 ?_
                refine g_icmp_le (tgt := 191) hX dX4_ring_184 (by decide) (fun c26 => ?_) (fun c26 => ?_)
                · refine g_iconst (v := (nI 0)) hX dX4_ring_191 (by decide) ?_
                  refine g_iadd hX dX4_ring_192 ?_
                  refine g_istore hX dX4_ring_193 (Nat.le_of_ble_eq_true rfl) rfl ?_
                  refine g_iinc (v := (nI ((i22 + 1) + 1))) hX dX4_ring_195 rfl rfl (gn_inc _ _) ?_
                  refine g_goto (tgt := 101) hX dX4_ring_198 (by decide) ?_
                  refine g_cg (h' := (hs (hs (hs h1 (t + 1) (aI 20 s18.2.2)) (t + 2) (aI 20 (upd as23 i17 (if ((as23 i17) + (nI 1)) < (nI 20) then ((as23 i17) + (nI 1)) else (nI 20))))) (t + 3) (aI 20 s18.2.1))) rfl (by rw [hs_cm (k := t + 2) (j := t + 3) _ _ _ (by omega), hs_hs (k := t + 2)]) ?_
                  have eT : tkP (ddgI (chM cs mn m)) sk (bellN (st i17)) i17 i22 (as23, os23) = (upd as23 i17 (tiredV (as23 i17)), os23 + nI 0) := (if_neg c25).trans (congrArg (Prod.mk _) (if_neg (gn_ile.mpr c26)))
                  refine g_cv ihi22 (by first | (rw [eT]; done) | (rw [eT]; rfl)) (by first | (rw [eT]; done) | (rw [eT]; rfl))
                · refine g_iconst (v := (nI 1)) hX dX4_ring_187 (by decide) ?_
                  refine g_goto (tgt := 192) hX dX4_ring_188 (by decide) ?_
                  refine g_iadd hX dX4_ring_192 ?_
                  refine g_istore hX dX4_ring_193 (Nat.le_of_ble_eq_true rfl) rfl ?_
                  refine g_iinc (v := (nI ((i22 + 1) + 1))) hX dX4_ring_195 rfl rfl (gn_inc _ _) ?_
                  refine g_goto (tgt := 101) hX dX4_ring_198 (by decide) ?_
                  refine g_cg (h' := (hs (hs (hs h1 (t + 1) (aI 20 s18.2.2)) (t + 2) (aI 20 (upd as23 i17 (if ((as23 i17) + (nI 1)) < (nI 20) then ((as23 i17) + (nI 1)) else (nI 20))))) (t + 3) (aI 20 s18.2.1))) rfl (by rw [hs_cm (k := t + 2) (j := t + 3) _ _ _ (by omega), hs_hs (k := t + 2)]) ?_
                  have eT : tkP (ddgI (chM cs mn m)) sk (bellN (st i17)) i17 i22 (as23, os23) = (upd as23 i17 (tiredV (as23 i17)), os23 + nI 1) := (if_neg c25).trans (congrArg (Prod.mk _) (if_pos (gn_ilt.mp c26)))
                  refine g_cv ihi22 (by first | (rw [eT]; done) | (rw [eT]; rfl)) (by first | (rw [eT]; done) | (rw [eT]; rfl))
              · refine g_goto (tgt := 195) hX dX4_ring_139 (by decide) ?_
                refine g_iinc (v := (nI ((i22 + 1) + 1))) hX dX4_ring_195 rfl rfl (gn_inc _ _) ?_
                refine g_goto (tgt := 101) hX dX4_ring_198 (by decide) ?_
                have eT : tkP (ddgI (chM cs mn m)) sk (bellN (st i17)) i17 i22 (as23, os23) = (as23, os23) := if_pos c25
                refine g_cv ihi22 (by first | (rw [eT]; done) | (rw [eT]; rfl)) (by first | (rw [eT]; done) | (rw [eT]; rfl))
            · refine g_iload hX dX4_ring_101 rfl ?_
              refine g_aload_n hX dX4_ring_103 rfl rfl ?_
              refine g_getf hX dX4_ring_104 fl_X4_3 ((hs_ne (by omega)).trans ((hs_ne (by omega)).trans ((hs_ne (by omega)).trans ((hk2K _ (by omega)).trans ((hs_ne (by omega)).trans (s0)))))) rfl ?_
              refine g_getf hX dX4_ring_107 fl_X4_69 ((hs_ne (by omega)).trans ((hs_ne (by omega)).trans ((hs_ne (by omega)).trans ((hk2K _ (by omega)).trans (hs_eq _ _ _))))) rfl ?_
              refine g_icmp_gtN (tgt := 201) hX dX4_ring_110 (by decide) (by omega) (fun c27 => ?_) (fun c27 => absurd c27 (by omega))
              refine g_aload_n hX dX4_ring_201 rfl rfl ?_
              refine g_getf hX dX4_ring_202 fl_X4_22 ((hs_ne (by omega)).trans ((hs_ne (by omega)).trans ((hs_ne (by omega)).trans ((hk2K _ (by omega)).trans ((hs_ne (by omega)).trans (s0)))))) rfl ?_
              refine g_iload hX dX4_ring_205 rfl ?_
              refine g_dup2 hX dX4_ring_207 rfl rfl ?_
              refine g_iaload hX dX4_ring_208 (hs_eq _ _ _) (i17) (by omega) rfl (by omega) ?_
              refine g_iload hX dX4_ring_209 rfl ?_
              refine g_iadd hX dX4_ring_211 ?_
              refine g_iastore hX dX4_ring_212 (hs_eq _ _ _) (i17) (by omega) rfl (by omega) ?_
              refine g_cg rfl hs_hs ?_
              refine g_aload_n hX dX4_ring_213 rfl rfl ?_
              refine g_getf hX dX4_ring_214 fl_X4_15 ((hs_ne (by omega)).trans ((hs_ne (by omega)).trans ((hs_ne (by omega)).trans ((hk2K _ (by omega)).trans ((hs_ne (by omega)).trans (s0)))))) rfl ?_
              refine g_iload hX dX4_ring_217 rfl ?_
              refine g_iconst (v := (nI 0)) hX dX4_ring_219 (by decide) ?_
              refine g_bipush (v := (nI 99)) hX dX4_ring_220 (by decide) ?_
              refine g_aload_n hX dX4_ring_222 rfl rfl ?_
              refine g_getf hX dX4_ring_223 fl_X4_15 ((hs_ne (by omega)).trans ((hs_ne (by omega)).trans ((hs_ne (by omega)).trans ((hk2K _ (by omega)).trans ((hs_ne (by omega)).trans (s0)))))) rfl ?_
              refine g_iload hX dX4_ring_226 rfl ?_
              refine g_iaload hX dX4_ring_228 ((hs_ne (by omega)).trans ((hs_ne (by omega)).trans (hs_eq _ _ _))) (i17) (by omega) rfl (by omega) ?_
              refine g_iload hX dX4_ring_229 rfl ?_
              refine g_iadd hX dX4_ring_231 ?_
              refine g_iload hX dX4_ring_232 rfl ?_
              refine g_isub hX dX4_ring_234 ?_
              refine g_mmin hX dX4_ring_235 ml_X4_75 w_mminS w_mI w_mminC (Nat.le_of_ble_eq_true rfl) (Nat.le_of_ble_eq_true rfl) (by omega) (by omega) ?_
              refine g_mmax hX dX4_ring_238 ml_X4_84 w_mmaxS w_mI w_mmaxC (Nat.le_of_ble_eq_true rfl) (Nat.le_of_ble_eq_true rfl) (by omega) (by omega) ?_
              refine g_iastore hX dX4_ring_241 ((hs_ne (by omega)).trans ((hs_ne (by omega)).trans (hs_eq _ _ _))) (i17) (by omega) rfl (by omega) ?_
              refine g_iinc (v := (nI (i17 + 1))) hX dX4_ring_242 rfl rfl (gn_inc _ _) ?_
              refine g_goto (tgt := 56) hX dX4_ring_245 (by decide) ?_
              refine g_kill 7 ?_
              refine g_kill 8 ?_
              refine g_cg (h' := (hs (hs (hs h1 (t + 1) (aI 20 (upd s18.2.2 i17 (if (nI 0) < (if (((s18.2.2 i17) + (mmI (chM cs mn m) (L * mn m) L)) - (itr (fun i s => tkP (ddgI (chM cs mn m)) sk (bellN (st i17)) i17 i s) (L * mn m) ((s18.1, nI 0) : (Nat → Int32) × Int32)).2) < (nI 99) then (((s18.2.2 i17) + (mmI (chM cs mn m) (L * mn m) L)) - (itr (fun i s => tkP (ddgI (chM cs mn m)) sk (bellN (st i17)) i17 i s) (L * mn m) ((s18.1, nI 0) : (Nat → Int32) × Int32)).2) else (nI 99)) then (if (((s18.2.2 i17) + (mmI (chM cs mn m) (L * mn m) L)) - (itr (fun i s => tkP (ddgI (chM cs mn m)) sk (bellN (st i17)) i17 i s) (L * mn m) ((s18.1, nI 0) : (Nat → Int32) × Int32)).2) < (nI 99) then (((s18.2.2 i17) + (mmI (chM cs mn m) (L * mn m) L)) - (itr (fun i s => tkP (ddgI (chM cs mn m)) sk (bellN (st i17)) i17 i s) (L * mn m) ((s18.1, nI 0) : (Nat → Int32) × Int32)).2) else (nI 99)) else (nI 0))))) (t + 2) (aI 20 ((itr (fun i s => tkP (ddgI (chM cs mn m)) sk (bellN (st i17)) i17 i s) (L * mn m) ((s18.1, nI 0) : (Nat → Int32) × Int32)).1))) (t + 3) (aI 20 (upd s18.2.1 i17 ((s18.2.1 i17) + (itr (fun i s => tkP (ddgI (chM cs mn m)) sk (bellN (st i17)) i17 i s) (L * mn m) ((s18.1, nI 0) : (Nat → Int32) × Int32)).2))))) rfl (by rw [hs_cm (k := t + 1) (j := t + 3) _ _ _ (by omega), hs_cm (k := t + 1) (j := t + 2) _ _ _ (by omega), hs_hs (k := t + 1)]) ?_
              refine g_cv ihi17 rfl (by rw [mrP, if_pos hbd9]; rfl)
          · refine g_goto (tgt := 242) hX dX4_ring_92 (by decide) ?_
            refine g_iinc (v := (nI (i17 + 1))) hX dX4_ring_242 rfl rfl (gn_inc _ _) ?_
            refine g_goto (tgt := 56) hX dX4_ring_245 (by decide) ?_
            refine g_cv ihi17 rfl (by rw [mrP, if_neg (fun q => c21 (hb9.mp q).2)])
      · refine g_iload hX dX4_ring_56 rfl ?_
        refine g_aload_n hX dX4_ring_58 rfl rfl ?_
        refine g_getf hX dX4_ring_59 fl_X4_3 ((hs_ne (by omega)).trans ((hs_ne (by omega)).trans ((hs_ne (by omega)).trans ((hk2K _ (by omega)).trans ((hs_ne (by omega)).trans (s0)))))) rfl ?_
        refine g_getf hX dX4_ring_62 fl_X4_42 ((hs_ne (by omega)).trans ((hs_ne (by omega)).trans ((hs_ne (by omega)).trans ((hk2K _ (by omega)).trans (hs_eq _ _ _))))) rfl ?_
        refine g_icmp_geN (tgt := 248) hX dX4_ring_65 (by decide) (by omega) (fun c28 => ?_) (fun c28 => absurd c28 (by omega))
        refine g_iload hX dX4_ring_248 rfl ?_
        refine g_ireturn hX hr dX4_ring_250 (Nat.le_refl _) (Nat.le_refl _)  ?_
        exact ⟨rfl, rfl, fun j hj => hs_cgj (hs_cgj (hs_cgj ((hk2K j (by omega)).trans (hs_cgj (rfl))))), WD_hs (by omega) (WD_hs (by omega) (WD_hs (by omega) (hk2.2)))⟩
    · refine g_iload_n hX dX4_ring_44 rfl rfl ?_
      refine g_goto (tgt := 51) hX dX4_ring_45 (by decide) ?_
      refine g_istore hX dX4_ring_51 (Nat.le_of_ble_eq_true rfl) rfl ?_
      have hmo : mmI (chM cs mn m) (L * mn m) L = (nI L) := if_pos ⟨c3, c16⟩
      refine g_cg (L' := [some (.ref t), some (.int (nI b)), some (.int (nI m)), some (.int (nI L)), some (.int (untI (codI (chM cs mn m)) (L * (mn m)))), some (.int (mmI (chM cs mn m) (L * mn m) L)), none, none, none]) (by rw [hmo]; rfl) rfl ?_
      refine g_iconst (v := (nI 0)) hX dX4_ring_53 (by decide) ?_
      refine g_istore hX dX4_ring_54 (Nat.le_of_ble_eq_true rfl) rfl ?_
      refine g_cg (h' := (hs h1 (t + 1) (aI 20 vt))) rfl (hs_id ((hk2K _ (by omega)).trans ((hs_ne (by omega)).trans (svt)))).symm ?_
      refine g_cg (h' := (hs (hs h1 (t + 1) (aI 20 vt)) (t + 2) (aI 20 ti))) rfl (hs_id ((hs_ne (by omega)).trans ((hk2K _ (by omega)).trans ((hs_ne (by omega)).trans (sti))))).symm ?_
      refine g_cg (h' := (hs (hs (hs h1 (t + 1) (aI 20 vt)) (t + 2) (aI 20 ti)) (t + 3) (aI 20 fa))) rfl (hs_id ((hs_ne (by omega)).trans ((hs_ne (by omega)).trans ((hk2K _ (by omega)).trans ((hs_ne (by omega)).trans (sfa)))))).symm ?_
      refine g_cg (L' := [some (.ref t), some (.int (nI b)), some (.int (nI m)), some (.int (nI L)), some (.int (untI (codI (chM cs mn m)) (L * (mn m)))), some (.int (mmI (chM cs mn m) (L * mn m) L)), some (.int (nI 0)), none, none]) (h' := (hs (hs (hs h1 (t + 1) (aI 20 (((ti, fa, vt) : TR).2.2))) (t + 2) (aI 20 (((ti, fa, vt) : TR).1))) (t + 3) (aI 20 (((ti, fa, vt) : TR).2.1)))) (by rfl) (by rfl) ?_
      refine g_for (P := fun (i : Nat) (s : TR) => GW X 56 [some (.ref t), some (.int (nI b)), some (.int (nI m)), some (.int (nI L)), some (.int (untI (codI (chM cs mn m)) (L * (mn m)))), some (.int (mmI (chM cs mn m) (L * mn m) L)), some (.int (nI i)), none, none] [] (hs (hs (hs h1 (t + 1) (aI 20 s.2.2)) (t + 2) (aI 20 s.1)) (t + 3) (aI 20 s.2.1)) n 0 0) (step := fun i s => mrP st sk (ddgI (chM cs mn m)) b (mmI (chM cs mn m) (L * mn m) L) (L * mn m) i s) rc ((ti, fa, vt) : TR) ?_ ?_
      · intro i29 s30 hi29 es30 ihi29
        have ihi29 : GW X 56 [some (.ref t), some (.int (nI b)), some (.int (nI m)), some (.int (nI L)), some (.int (untI (codI (chM cs mn m)) (L * (mn m)))), some (.int (mmI (chM cs mn m) (L * mn m) L)), some (.int (nI (i29 + 1))), none, none] [] (hs (hs (hs h1 (t + 1) (aI 20 ((mrP st sk (ddgI (chM cs mn m)) b (mmI (chM cs mn m) (L * mn m) L) (L * mn m) i29 s30).2.2))) (t + 2) (aI 20 ((mrP st sk (ddgI (chM cs mn m)) b (mmI (chM cs mn m) (L * mn m) L) (L * mn m) i29 s30).1))) (t + 3) (aI 20 ((mrP st sk (ddgI (chM cs mn m)) b (mmI (chM cs mn m) (L * mn m) L) (L * mn m) i29 s30).2.1))) n 0 0 := ihi29
        have hb9 := so_band (hso i29 hi29) hb3 (b := b)
        have hn9 := so_neg (hso i29 hi29)
        refine g_iload hX dX4_ring_56 rfl ?_
        refine g_aload_n hX dX4_ring_58 rfl rfl ?_
        refine g_getf hX dX4_ring_59 fl_X4_3 ((hs_ne (by omega)).trans ((hs_ne (by omega)).trans ((hs_ne (by omega)).trans ((hk2K _ (by omega)).trans ((hs_ne (by omega)).trans (s0)))))) rfl ?_
        refine g_getf hX dX4_ring_62 fl_X4_42 ((hs_ne (by omega)).trans ((hs_ne (by omega)).trans ((hs_ne (by omega)).trans ((hk2K _ (by omega)).trans (hs_eq _ _ _))))) rfl ?_
        refine g_icmp_geN (tgt := 248) hX dX4_ring_65 (by decide) (by omega) (fun c31 => absurd c31 (by omega)) (fun c31 => ?_)
        refine g_aload_n hX dX4_ring_68 rfl rfl ?_
        refine g_getf hX dX4_ring_69 fl_X4_25 ((hs_ne (by omega)).trans ((hs_ne (by omega)).trans ((hs_ne (by omega)).trans ((hk2K _ (by omega)).trans ((hs_ne (by omega)).trans (s0)))))) rfl ?_
        refine g_iload hX dX4_ring_72 rfl ?_
        refine g_iaload hX dX4_ring_74 ((hs_ne (by omega)).trans ((hs_ne (by omega)).trans ((hs_ne (by omega)).trans ((hk2K _ (by omega)).trans ((hs_ne (by omega)).trans (sst)))))) (i29) (by omega) rfl (by omega) ?_
        refine g_if_lt (tgt := 242) hX dX4_ring_75 (by decide) (fun c32 => ?_) (fun c32 => ?_)
        · refine g_iinc (v := (nI (i29 + 1))) hX dX4_ring_242 rfl rfl (gn_inc _ _) ?_
          refine g_goto (tgt := 56) hX dX4_ring_245 (by decide) ?_
          refine g_cv ihi29 rfl (by rw [mrP, if_neg (fun q => (hb9.mp q).1 c32)])
        · refine g_aload_n hX dX4_ring_78 rfl rfl ?_
          refine g_getf hX dX4_ring_79 fl_X4_25 ((hs_ne (by omega)).trans ((hs_ne (by omega)).trans ((hs_ne (by omega)).trans ((hk2K _ (by omega)).trans ((hs_ne (by omega)).trans (s0)))))) rfl ?_
          refine g_iload hX dX4_ring_82 rfl ?_
          refine g_iaload hX dX4_ring_84 ((hs_ne (by omega)).trans ((hs_ne (by omega)).trans ((hs_ne (by omega)).trans ((hk2K _ (by omega)).trans ((hs_ne (by omega)).trans (sst)))))) (i29) (by omega) rfl (by omega) ?_
          refine g_bipush (v := (nI 6)) hX dX4_ring_85 (by decide) ?_
          refine g_idiv hX dX4_ring_87 (by decide) ?_
          refine g_iload_n hX dX4_ring_88 rfl rfl ?_
          refine g_icmp_eq (tgt := 95) hX dX4_ring_89 (by decide) (fun c33 => ?_) (fun c33 => ?_)
          · have hbd9 : bandI (st i29) = nI b := hb9.mpr ⟨c32, c33⟩
            have hbn := bell_ok (hso i29 (by omega)) hb3 hbd9
            have hbn2 := hbn.2
            have hbl : st i29 - st i29 / nI 6 * nI 6 = nI (bellN (st i29)) := by
              rw [← hbn.1]; unfold bellI; rw [if_neg (fun q => c32 (hn9.mpr q))]
            refine g_iconst (v := (nI 0)) hX dX4_ring_95 (by decide) ?_
            refine g_istore hX dX4_ring_96 (Nat.le_of_ble_eq_true rfl) rfl ?_
            refine g_iconst (v := (nI 1)) hX dX4_ring_98 (by decide) ?_
            refine g_istore hX dX4_ring_99 (Nat.le_of_ble_eq_true rfl) rfl ?_
            refine g_cg (L' := [some (.ref t), some (.int (nI b)), some (.int (nI m)), some (.int (nI L)), some (.int (untI (codI (chM cs mn m)) (L * (mn m)))), some (.int (mmI (chM cs mn m) (L * mn m) L)), some (.int (nI i29)), some (.int (((s30.1, nI 0) : (Nat → Int32) × Int32).2)), some (.int (nI (0 + 1)))]) (h' := (hs (hs (hs h1 (t + 1) (aI 20 s30.2.2)) (t + 2) (aI 20 (((s30.1, nI 0) : (Nat → Int32) × Int32).1))) (t + 3) (aI 20 s30.2.1))) (by rfl) (by rfl) ?_
            refine g_for (P := fun (i : Nat) (s : (Nat → Int32) × Int32) => GW X 101 [some (.ref t), some (.int (nI b)), some (.int (nI m)), some (.int (nI L)), some (.int (untI (codI (chM cs mn m)) (L * (mn m)))), some (.int (mmI (chM cs mn m) (L * mn m) L)), some (.int (nI i29)), some (.int s.2), some (.int (nI (i + 1)))] [] (hs (hs (hs h1 (t + 1) (aI 20 s30.2.2)) (t + 2) (aI 20 s.1)) (t + 3) (aI 20 s30.2.1)) n 0 0) (step := fun i s => tkP (ddgI (chM cs mn m)) sk (bellN (st i29)) i29 i s) (L * mn m) ((s30.1, nI 0) : (Nat → Int32) × Int32) ?_ ?_
            · intro i34 ⟨as35, os35⟩ hi34 es35 ihi34
              have ihi34 : GW X 101 [some (.ref t), some (.int (nI b)), some (.int (nI m)), some (.int (nI L)), some (.int (untI (codI (chM cs mn m)) (L * (mn m)))), some (.int (mmI (chM cs mn m) (L * mn m) L)), some (.int (nI i29)), some (.int ((tkP (ddgI (chM cs mn m)) sk (bellN (st i29)) i29 i34 (as35, os35)).2)), some (.int (nI (i34 + 1 + 1)))] [] (hs (hs (hs h1 (t + 1) (aI 20 s30.2.2)) (t + 2) (aI 20 ((tkP (ddgI (chM cs mn m)) sk (bellN (st i29)) i29 i34 (as35, os35)).1))) (t + 3) (aI 20 s30.2.1)) n 0 0 := ihi34
              refine g_iload hX dX4_ring_101 rfl ?_
              refine g_aload_n hX dX4_ring_103 rfl rfl ?_
              refine g_getf hX dX4_ring_104 fl_X4_3 ((hs_ne (by omega)).trans ((hs_ne (by omega)).trans ((hs_ne (by omega)).trans ((hk2K _ (by omega)).trans ((hs_ne (by omega)).trans (s0)))))) rfl ?_
              refine g_getf hX dX4_ring_107 fl_X4_69 ((hs_ne (by omega)).trans ((hs_ne (by omega)).trans ((hs_ne (by omega)).trans ((hk2K _ (by omega)).trans (hs_eq _ _ _))))) rfl ?_
              refine g_icmp_gtN (tgt := 201) hX dX4_ring_110 (by decide) (by omega) (fun c36 => absurd c36 (by omega)) (fun c36 => ?_)
              refine g_aload_n hX dX4_ring_113 rfl rfl ?_
              refine g_getf hX dX4_ring_114 fl_X4_3 ((hs_ne (by omega)).trans ((hs_ne (by omega)).trans ((hs_ne (by omega)).trans ((hk2K _ (by omega)).trans ((hs_ne (by omega)).trans (s0)))))) rfl ?_
              refine g_getf hX dX4_ring_117 fl_X4_72 ((hs_ne (by omega)).trans ((hs_ne (by omega)).trans ((hs_ne (by omega)).trans ((hk2K _ (by omega)).trans (hs_eq _ _ _))))) rfl ?_
              refine g_iload hX dX4_ring_120 rfl ?_
              refine g_iaload hX dX4_ring_122 ((hs_ne (by omega)).trans ((hs_ne (by omega)).trans ((hs_ne (by omega)).trans (q47_1)))) (i34 + 1) (by omega) rfl (by omega) ?_
              refine g_top (v' := .int (ddgI (chM cs mn m) i34)) (congrArg Value.int (hdg1 _ (by omega))) ?_
              refine g_aload_n hX dX4_ring_123 rfl rfl ?_
              refine g_getf hX dX4_ring_124 fl_X4_25 ((hs_ne (by omega)).trans ((hs_ne (by omega)).trans ((hs_ne (by omega)).trans ((hk2K _ (by omega)).trans ((hs_ne (by omega)).trans (s0)))))) rfl ?_
              refine g_iload hX dX4_ring_127 rfl ?_
              refine g_iaload hX dX4_ring_129 ((hs_ne (by omega)).trans ((hs_ne (by omega)).trans ((hs_ne (by omega)).trans ((hk2K _ (by omega)).trans ((hs_ne (by omega)).trans (sst)))))) (i29) (by omega) rfl (by omega) ?_
              refine g_bipush (v := (nI 6)) hX dX4_ring_130 (by decide) ?_
              refine g_irem hX dX4_ring_132 (by decide) ?_
              refine g_top (v' := .int (nI (bellN (st i29)))) (by rw [hbl]) ?_
              refine g_ishr hX dX4_ring_133 ?_
              refine g_iconst (v := (nI 1)) hX dX4_ring_134 (by decide) ?_
              refine g_iand hX dX4_ring_135 ?_
              refine g_if_ne (tgt := 142) hX dX4_ring_136 (by decide) (fun c37 => ?_) (fun c37 => ?_)
              · refine g_aload_n hX dX4_ring_142 rfl rfl ?_
                refine g_getf hX dX4_ring_143 fl_X4_19 ((hs_ne (by omega)).trans ((hs_ne (by omega)).trans ((hs_ne (by omega)).trans ((hk2K _ (by omega)).trans ((hs_ne (by omega)).trans (s0)))))) rfl ?_
                refine g_iload hX dX4_ring_146 rfl ?_
                refine g_bipush (v := (nI 20)) hX dX4_ring_148 (by decide) ?_
                refine g_aload_n hX dX4_ring_150 rfl rfl ?_
                refine g_getf hX dX4_ring_151 fl_X4_19 ((hs_ne (by omega)).trans ((hs_ne (by omega)).trans ((hs_ne (by omega)).trans ((hk2K _ (by omega)).trans ((hs_ne (by omega)).trans (s0)))))) rfl ?_
                refine g_iload hX dX4_ring_154 rfl ?_
                refine g_iaload hX dX4_ring_156 ((hs_ne (by omega)).trans (hs_eq _ _ _)) (i29) (by omega) rfl (by omega) ?_
                refine g_iconst (v := (nI 1)) hX dX4_ring_157 (by decide) ?_
                refine g_iadd hX dX4_ring_158 ?_
                refine g_mmin hX dX4_ring_159 ml_X4_75 w_mminS w_mI w_mminC (Nat.le_of_ble_eq_true rfl) (Nat.le_of_ble_eq_true rfl) (by omega) (by omega) ?_
                refine g_iastore hX dX4_ring_162 ((hs_ne (by omega)).trans (hs_eq _ _ _)) (i29) (by omega) rfl (by omega) ?_
                refine g_iload hX dX4_ring_163 rfl ?_
                refine g_aload_n hX dX4_ring_165 rfl rfl ?_
                refine g_getf hX dX4_ring_166 fl_X4_19 ((hs_ne (by omega)).trans ((hs_ne (by omega)).trans ((hs_ne (by omega)).trans ((hs_ne (by omega)).trans ((hk2K _ (by omega)).trans ((hs_ne (by omega)).trans (s0))))))) rfl ?_
                refine g_iload hX dX4_ring_169 rfl ?_
                refine g_iaload hX dX4_ring_171 (hs_eq _ _ _) (i29) (by omega) rfl (by omega) ?_
                refine g_top (v' := .int (if ((as35 i29) + (nI 1)) < (nI 20) then ((as35 i29) + (nI 1)) else (nI 20))) (congrArg Value.int pk_us) ?_
                refine g_iconst (v := (nI 2)) hX dX4_ring_172 (by decide) ?_
                refine g_aload_n hX dX4_ring_173 rfl rfl ?_
                refine g_getf hX dX4_ring_174 fl_X4_3 ((hs_ne (by omega)).trans ((hs_ne (by omega)).trans ((hs_ne (by omega)).trans ((hs_ne (by omega)).trans ((hk2K _ (by omega)).trans ((hs_ne (by omega)).trans (s0))))))) rfl ?_
                refine g_getf hX dX4_ring_177 fl_X4_81 ((hs_ne (by omega)).trans ((hs_ne (by omega)).trans ((hs_ne (by omega)).trans ((hs_ne (by omega)).trans ((hk2K _ (by omega)).trans (hs_eq _ _ _)))))) rfl ?_
                refine g_iload hX dX4_ring_180 rfl ?_
                refine g_iaload hX dX4_ring_182 ((hs_ne (by omega)).trans ((hs_ne (by omega)).trans ((hs_ne (by omega)).trans ((hs_ne (by omega)).trans ((hk2K _ (by omega)).trans ((hs_ne (by omega)).trans (msk))))))) (i29) (by omega) rfl (by omega) ?_
                refine g_imul hX dX4_ring_183 ?_
                refine g_icmp_le (tgt := 191) hX dX4_ring_184 (by decide) (fun c38 => ?_) (fun c38 => ?_)
                · refine g_iconst (v := (nI 0)) hX dX4_ring_191 (by decide) ?_
                  refine g_iadd hX dX4_ring_192 ?_
                  refine g_istore hX dX4_ring_193 (Nat.le_of_ble_eq_true rfl) rfl ?_
                  refine g_iinc (v := (nI ((i34 + 1) + 1))) hX dX4_ring_195 rfl rfl (gn_inc _ _) ?_
                  refine g_goto (tgt := 101) hX dX4_ring_198 (by decide) ?_
                  refine g_cg (h' := (hs (hs (hs h1 (t + 1) (aI 20 s30.2.2)) (t + 2) (aI 20 (upd as35 i29 (if ((as35 i29) + (nI 1)) < (nI 20) then ((as35 i29) + (nI 1)) else (nI 20))))) (t + 3) (aI 20 s30.2.1))) rfl (by rw [hs_cm (k := t + 2) (j := t + 3) _ _ _ (by omega), hs_hs (k := t + 2)]) ?_
                  have eT : tkP (ddgI (chM cs mn m)) sk (bellN (st i29)) i29 i34 (as35, os35) = (upd as35 i29 (tiredV (as35 i29)), os35 + nI 0) := (if_neg c37).trans (congrArg (Prod.mk _) (if_neg (gn_ile.mpr c38)))
                  refine g_cv ihi34 (by first | (rw [eT]; done) | (rw [eT]; rfl)) (by first | (rw [eT]; done) | (rw [eT]; rfl))
                · refine g_iconst (v := (nI 1)) hX dX4_ring_187 (by decide) ?_
                  refine g_goto (tgt := 192) hX dX4_ring_188 (by decide) ?_
                  refine g_iadd hX dX4_ring_192 ?_
                  refine g_istore hX dX4_ring_193 (Nat.le_of_ble_eq_true rfl) rfl ?_
                  refine g_iinc (v := (nI ((i34 + 1) + 1))) hX dX4_ring_195 rfl rfl (gn_inc _ _) ?_
                  refine g_goto (tgt := 101) hX dX4_ring_198 (by decide) ?_
                  refine g_cg (h' := (hs (hs (hs h1 (t + 1) (aI 20 s30.2.2)) (t + 2) (aI 20 (upd as35 i29 (if ((as35 i29) + (nI 1)) < (nI 20) then ((as35 i29) + (nI 1)) else (nI 20))))) (t + 3) (aI 20 s30.2.1))) rfl (by rw [hs_cm (k := t + 2) (j := t + 3) _ _ _ (by omega), hs_hs (k := t + 2)]) ?_
                  have eT : tkP (ddgI (chM cs mn m)) sk (bellN (st i29)) i29 i34 (as35, os35) = (upd as35 i29 (tiredV (as35 i29)), os35 + nI 1) := (if_neg c37).trans (congrArg (Prod.mk _) (if_pos (gn_ilt.mp c38)))
                  refine g_cv ihi34 (by first | (rw [eT]; done) | (rw [eT]; rfl)) (by first | (rw [eT]; done) | (rw [eT]; rfl))
              · refine g_goto (tgt := 195) hX dX4_ring_139 (by decide) ?_
                refine g_iinc (v := (nI ((i34 + 1) + 1))) hX dX4_ring_195 rfl rfl (gn_inc _ _) ?_
                refine g_goto (tgt := 101) hX dX4_ring_198 (by decide) ?_
                have eT : tkP (ddgI (chM cs mn m)) sk (bellN (st i29)) i29 i34 (as35, os35) = (as35, os35) := if_pos c37
                refine g_cv ihi34 (by first | (rw [eT]; done) | (rw [eT]; rfl)) (by first | (rw [eT]; done) | (rw [eT]; rfl))
            · refine g_iload hX dX4_ring_101 rfl ?_
              refine g_aload_n hX dX4_ring_103 rfl rfl ?_
              refine g_getf hX dX4_ring_104 fl_X4_3 ((hs_ne (by omega)).trans ((hs_ne (by omega)).trans ((hs_ne (by omega)).trans ((hk2K _ (by omega)).trans ((hs_ne (by omega)).trans (s0)))))) rfl ?_
              refine g_getf hX dX4_ring_107 fl_X4_69 ((hs_ne (by omega)).trans ((hs_ne (by omega)).trans ((hs_ne (by omega)).trans ((hk2K _ (by omega)).trans (hs_eq _ _ _))))) rfl ?_
              refine g_icmp_gtN (tgt := 201) hX dX4_ring_110 (by decide) (by omega) (fun c39 => ?_) (fun c39 => absurd c39 (by omega))
              refine g_aload_n hX dX4_ring_201 rfl rfl ?_
              refine g_getf hX dX4_ring_202 fl_X4_22 ((hs_ne (by omega)).trans ((hs_ne (by omega)).trans ((hs_ne (by omega)).trans ((hk2K _ (by omega)).trans ((hs_ne (by omega)).trans (s0)))))) rfl ?_
              refine g_iload hX dX4_ring_205 rfl ?_
              refine g_dup2 hX dX4_ring_207 rfl rfl ?_
              refine g_iaload hX dX4_ring_208 (hs_eq _ _ _) (i29) (by omega) rfl (by omega) ?_
              refine g_iload hX dX4_ring_209 rfl ?_
              refine g_iadd hX dX4_ring_211 ?_
              refine g_iastore hX dX4_ring_212 (hs_eq _ _ _) (i29) (by omega) rfl (by omega) ?_
              refine g_cg rfl hs_hs ?_
              refine g_aload_n hX dX4_ring_213 rfl rfl ?_
              refine g_getf hX dX4_ring_214 fl_X4_15 ((hs_ne (by omega)).trans ((hs_ne (by omega)).trans ((hs_ne (by omega)).trans ((hk2K _ (by omega)).trans ((hs_ne (by omega)).trans (s0)))))) rfl ?_
              refine g_iload hX dX4_ring_217 rfl ?_
              refine g_iconst (v := (nI 0)) hX dX4_ring_219 (by decide) ?_
              refine g_bipush (v := (nI 99)) hX dX4_ring_220 (by decide) ?_
              refine g_aload_n hX dX4_ring_222 rfl rfl ?_
              refine g_getf hX dX4_ring_223 fl_X4_15 ((hs_ne (by omega)).trans ((hs_ne (by omega)).trans ((hs_ne (by omega)).trans ((hk2K _ (by omega)).trans ((hs_ne (by omega)).trans (s0)))))) rfl ?_
              refine g_iload hX dX4_ring_226 rfl ?_
              refine g_iaload hX dX4_ring_228 ((hs_ne (by omega)).trans ((hs_ne (by omega)).trans (hs_eq _ _ _))) (i29) (by omega) rfl (by omega) ?_
              refine g_iload hX dX4_ring_229 rfl ?_
              refine g_iadd hX dX4_ring_231 ?_
              refine g_iload hX dX4_ring_232 rfl ?_
              refine g_isub hX dX4_ring_234 ?_
              refine g_mmin hX dX4_ring_235 ml_X4_75 w_mminS w_mI w_mminC (Nat.le_of_ble_eq_true rfl) (Nat.le_of_ble_eq_true rfl) (by omega) (by omega) ?_
              refine g_mmax hX dX4_ring_238 ml_X4_84 w_mmaxS w_mI w_mmaxC (Nat.le_of_ble_eq_true rfl) (Nat.le_of_ble_eq_true rfl) (by omega) (by omega) ?_
              refine g_iastore hX dX4_ring_241 ((hs_ne (by omega)).trans ((hs_ne (by omega)).trans (hs_eq _ _ _))) (i29) (by omega) rfl (by omega) ?_
              refine g_iinc (v := (nI (i29 + 1))) hX dX4_ring_242 rfl rfl (gn_inc _ _) ?_
              refine g_goto (tgt := 56) hX dX4_ring_245 (by decide) ?_
              refine g_kill 7 ?_
              refine g_kill 8 ?_
              refine g_cg (h' := (hs (hs (hs h1 (t + 1) (aI 20 (upd s30.2.2 i29 (if (nI 0) < (if (((s30.2.2 i29) + (mmI (chM cs mn m) (L * mn m) L)) - (itr (fun i s => tkP (ddgI (chM cs mn m)) sk (bellN (st i29)) i29 i s) (L * mn m) ((s30.1, nI 0) : (Nat → Int32) × Int32)).2) < (nI 99) then (((s30.2.2 i29) + (mmI (chM cs mn m) (L * mn m) L)) - (itr (fun i s => tkP (ddgI (chM cs mn m)) sk (bellN (st i29)) i29 i s) (L * mn m) ((s30.1, nI 0) : (Nat → Int32) × Int32)).2) else (nI 99)) then (if (((s30.2.2 i29) + (mmI (chM cs mn m) (L * mn m) L)) - (itr (fun i s => tkP (ddgI (chM cs mn m)) sk (bellN (st i29)) i29 i s) (L * mn m) ((s30.1, nI 0) : (Nat → Int32) × Int32)).2) < (nI 99) then (((s30.2.2 i29) + (mmI (chM cs mn m) (L * mn m) L)) - (itr (fun i s => tkP (ddgI (chM cs mn m)) sk (bellN (st i29)) i29 i s) (L * mn m) ((s30.1, nI 0) : (Nat → Int32) × Int32)).2) else (nI 99)) else (nI 0))))) (t + 2) (aI 20 ((itr (fun i s => tkP (ddgI (chM cs mn m)) sk (bellN (st i29)) i29 i s) (L * mn m) ((s30.1, nI 0) : (Nat → Int32) × Int32)).1))) (t + 3) (aI 20 (upd s30.2.1 i29 ((s30.2.1 i29) + (itr (fun i s => tkP (ddgI (chM cs mn m)) sk (bellN (st i29)) i29 i s) (L * mn m) ((s30.1, nI 0) : (Nat → Int32) × Int32)).2))))) rfl (by rw [hs_cm (k := t + 1) (j := t + 3) _ _ _ (by omega), hs_cm (k := t + 1) (j := t + 2) _ _ _ (by omega), hs_hs (k := t + 1)]) ?_
              refine g_cv ihi29 rfl (by rw [mrP, if_pos hbd9]; rfl)
          · refine g_goto (tgt := 242) hX dX4_ring_92 (by decide) ?_
            refine g_iinc (v := (nI (i29 + 1))) hX dX4_ring_242 rfl rfl (gn_inc _ _) ?_
            refine g_goto (tgt := 56) hX dX4_ring_245 (by decide) ?_
            refine g_cv ihi29 rfl (by rw [mrP, if_neg (fun q => c33 (hb9.mp q).2)])
      · refine g_iload hX dX4_ring_56 rfl ?_
        refine g_aload_n hX dX4_ring_58 rfl rfl ?_
        refine g_getf hX dX4_ring_59 fl_X4_3 ((hs_ne (by omega)).trans ((hs_ne (by omega)).trans ((hs_ne (by omega)).trans ((hk2K _ (by omega)).trans ((hs_ne (by omega)).trans (s0)))))) rfl ?_
        refine g_getf hX dX4_ring_62 fl_X4_42 ((hs_ne (by omega)).trans ((hs_ne (by omega)).trans ((hs_ne (by omega)).trans ((hk2K _ (by omega)).trans (hs_eq _ _ _))))) rfl ?_
        refine g_icmp_geN (tgt := 248) hX dX4_ring_65 (by decide) (by omega) (fun c40 => ?_) (fun c40 => absurd c40 (by omega))
        refine g_iload hX dX4_ring_248 rfl ?_
        refine g_ireturn hX hr dX4_ring_250 (Nat.le_refl _) (Nat.le_refl _)  ?_
        exact ⟨rfl, rfl, fun j hj => hs_cgj (hs_cgj (hs_cgj ((hk2K j (by omega)).trans (hs_cgj (rfl))))), WD_hs (by omega) (WD_hs (by omega) (WD_hs (by omega) (hk2.2)))⟩
