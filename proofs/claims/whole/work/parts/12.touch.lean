set_option maxRecDepth 20000 in
theorem kJ7_fill_53178 {l : Launch} {K : gw_K} (hst : l.stackTraces = false) {a z n : Nat} {h : gw_H} {f : Nat → Int32} {v : Int32} (f0 : h a = (aI z f)) (hz : z < 1000) : Ctr l K mJ7_fill_53178 [.ref a, .int v] h n 0 0 (PQ (none) (hs h a (aI z (fun _ => v))) n) (PX0) := by
  refine Ctr.of hst pn_J7_fill_53178 (Nat.le_of_ble_eq_true rfl) (fun X hX hr hE => ?_)
  have hX : FX l K X cJ7_fill_53178 RJ7 0 0 0 0 := hX
  show GW X 0 [some (.ref a), some (.int v), none, none] [] h n 0 0
  refine g_iconst (v := (nI 0)) hX dJ7_fill_53178_0 (by decide) ?_
  refine g_istore_n (i := 2) hX dJ7_fill_53178_1 rfl (Nat.le_of_ble_eq_true rfl) rfl ?_
  refine g_aload_n hX dJ7_fill_53178_2 rfl rfl ?_
  refine g_alen_aI hX dJ7_fill_53178_3 (f0) ?_
  refine g_istore_n (i := 3) hX dJ7_fill_53178_4 rfl (Nat.le_of_ble_eq_true rfl) rfl ?_
  refine g_cg (L' := [some (.ref a), some (.int v), some (.int (nI 0)), some (.int (nI z))]) (h' := (hs h a (aI z (ltA 0 (fun _ => v) f)))) (by rfl) (by rw [ltA_0, hs_id f0]) ?_
  refine g_loop (P := fun (i : Nat) => GW X 5 [some (.ref a), some (.int v), some (.int (nI i)), some (.int (nI z))] [] (hs h a (aI z (ltA i (fun _ => v) f))) n 0 0) (fun i => True) z trivial ?_ ?_
  · intro i1 hi1 Ii1 ihi1
    have ihi1 : True → GW X 5 [some (.ref a), some (.int v), some (.int (nI (i1 + 1))), some (.int (nI z))] [] (hs h a (aI z (ltA (i1 + 1) (fun _ => v) f))) n 0 0 := ihi1
    refine g_iload_n hX dJ7_fill_53178_5 rfl rfl ?_
    refine g_iload_n hX dJ7_fill_53178_6 rfl rfl ?_
    refine g_icmp_geN (tgt := 20) hX dJ7_fill_53178_7 (by decide) (by omega) (fun c2 => absurd c2 (by omega)) (fun c2 => ?_)
    refine g_aload_n hX dJ7_fill_53178_10 rfl rfl ?_
    refine g_iload_n hX dJ7_fill_53178_11 rfl rfl ?_
    refine g_iload_n hX dJ7_fill_53178_12 rfl rfl ?_
    refine g_iastore hX dJ7_fill_53178_13 (hs_eq _ _ _) (i1) (by omega) rfl (by omega) ?_
    refine g_cg rfl hs_hs ?_
    refine g_iinc (v := (nI (i1 + 1))) hX dJ7_fill_53178_14 rfl rfl (gn_inc _ _) ?_
    refine g_goto (tgt := 5) hX dJ7_fill_53178_17 (by decide) ?_
    refine g_cv (ihi1 (trivial)) rfl (hs_cgI (ltA_up _ _ _ rfl))
  · intro IN3
    refine g_iload_n hX dJ7_fill_53178_5 rfl rfl ?_
    refine g_iload_n hX dJ7_fill_53178_6 rfl rfl ?_
    refine g_icmp_geN (tgt := 20) hX dJ7_fill_53178_7 (by decide) (by omega) (fun c4 => ?_) (fun c4 => absurd c4 (by omega))
    refine g_ext (fun k hk => ltA_N hk) ?_
    refine g_return hX hr dJ7_fill_53178_20 (Nat.le_refl _) (Nat.le_refl _)  ?_
    exact ⟨rfl, rfl, rfl⟩
set_option maxRecDepth 20000 in
theorem kJ7_fill_d0a16 {l : Launch} {K : gw_K} (hst : l.stackTraces = false) {a z n : Nat} {h : gw_H} {f : Nat → Int64} {v : Int64} (f0 : h a = (aJ z f)) (hz : z < 1000) : Ctr l K mJ7_fill_d0a16 [.ref a, .long v] h n 0 0 (PQ (none) (hs h a (aJ z (fun _ => v))) n) (PX0) := by
  refine Ctr.of hst pn_J7_fill_d0a16 (Nat.le_of_ble_eq_true rfl) (fun X hX hr hE => ?_)
  have hX : FX l K X cJ7_fill_d0a16 RJ7 0 0 0 0 := hX
  show GW X 0 [some (.ref a), some (.long v), none, none, none] [] h n 0 0
  refine g_iconst (v := (nI 0)) hX dJ7_fill_d0a16_0 (by decide) ?_
  refine g_istore_n (i := 3) hX dJ7_fill_d0a16_1 rfl (Nat.le_of_ble_eq_true rfl) rfl ?_
  refine g_aload_n hX dJ7_fill_d0a16_2 rfl rfl ?_
  refine g_alen_aJ hX dJ7_fill_d0a16_3 (f0) ?_
  refine g_istore hX dJ7_fill_d0a16_4 (Nat.le_of_ble_eq_true rfl) rfl ?_
  refine g_cg (L' := [some (.ref a), some (.long v), none, some (.int (nI 0)), some (.int (nI z))]) (h' := (hs h a (aJ z (ltA 0 (fun _ => v) f)))) (by rfl) (by rw [ltA_0, hs_id f0]) ?_
  refine g_loop (P := fun (i : Nat) => GW X 6 [some (.ref a), some (.long v), none, some (.int (nI i)), some (.int (nI z))] [] (hs h a (aJ z (ltA i (fun _ => v) f))) n 0 0) (fun i => True) z trivial ?_ ?_
  · intro i1 hi1 Ii1 ihi1
    have ihi1 : True → GW X 6 [some (.ref a), some (.long v), none, some (.int (nI (i1 + 1))), some (.int (nI z))] [] (hs h a (aJ z (ltA (i1 + 1) (fun _ => v) f))) n 0 0 := ihi1
    refine g_iload_n hX dJ7_fill_d0a16_6 rfl rfl ?_
    refine g_iload hX dJ7_fill_d0a16_7 rfl ?_
    refine g_icmp_geN (tgt := 22) hX dJ7_fill_d0a16_9 (by decide) (by omega) (fun c2 => absurd c2 (by omega)) (fun c2 => ?_)
    refine g_aload_n hX dJ7_fill_d0a16_12 rfl rfl ?_
    refine g_iload_n hX dJ7_fill_d0a16_13 rfl rfl ?_
    refine g_lload_n hX dJ7_fill_d0a16_14 rfl rfl ?_
    refine g_lastore hX dJ7_fill_d0a16_15 (hs_eq _ _ _) (i1) (by omega) rfl (by omega) ?_
    refine g_cg rfl hs_hs ?_
    refine g_iinc (v := (nI (i1 + 1))) hX dJ7_fill_d0a16_16 rfl rfl (gn_inc _ _) ?_
    refine g_goto (tgt := 6) hX dJ7_fill_d0a16_19 (by decide) ?_
    refine g_cv (ihi1 (trivial)) rfl (hs_cgJ (ltA_upL _ _ _ rfl))
  · intro IN3
    refine g_iload_n hX dJ7_fill_d0a16_6 rfl rfl ?_
    refine g_iload hX dJ7_fill_d0a16_7 rfl ?_
    refine g_icmp_geN (tgt := 22) hX dJ7_fill_d0a16_9 (by decide) (by omega) (fun c4 => ?_) (fun c4 => absurd c4 (by omega))
    refine g_extL (fun k hk => ltA_N hk) ?_
    refine g_return hX hr dJ7_fill_d0a16_22 (Nat.le_refl _) (Nat.le_refl _)  ?_
    exact ⟨rfl, rfl, rfl⟩
set_option maxRecDepth 20000 in
theorem kX1_moveFrom {l : Launch} {K : gw_K} (hst : l.stackTraces = false) {x c : Int32} {h : gw_H} {n : Nat}   : Ctr l K mX1_moveFrom [.int x, .int c] h n 0 0 (PQ (some (.int (mvI x c))) h n) (PX0) := by
  refine Ctr.of hst pn_X1_moveFrom (Nat.le_of_ble_eq_true rfl) (fun X hX hr hE => ?_)
  have hX : FX l K X cX1_moveFrom RX1 0 0 0 0 := hX
  show GW X 0 [some (.int x), some (.int c)] [] h n 0 0
  refine g_iload_n hX dX1_moveFrom_0 rfl rfl ?_
  refine g_iload_n hX dX1_moveFrom_1 rfl rfl ?_
  refine g_ishr hX dX1_moveFrom_2 ?_
  refine g_iconst (v := (nI 1)) hX dX1_moveFrom_3 (by decide) ?_
  refine g_iand hX dX1_moveFrom_4 ?_
  refine g_if_eq (tgt := 10) hX dX1_moveFrom_5 (by decide) (fun c1 => ?_) (fun c1 => ?_)
  · refine g_iload_n hX dX1_moveFrom_10 rfl rfl ?_
    refine g_if_le (tgt := 26) hX dX1_moveFrom_11 (by decide) (fun c2 => ?_) (fun c2 => ?_)
    · refine g_iconst (v := (nI 0)) hX dX1_moveFrom_26 (by decide) ?_
      refine g_ireturn hX hr dX1_moveFrom_27 (Nat.le_refl _) (Nat.le_refl _)  ?_
      exact ⟨by simp [mvI, c1, c2, gn_ile.mpr c2], rfl, rfl⟩
    · refine g_iload_n hX dX1_moveFrom_14 rfl rfl ?_
      refine g_iload_n hX dX1_moveFrom_15 rfl rfl ?_
      refine g_iconst (v := (nI 1)) hX dX1_moveFrom_16 (by decide) ?_
      refine g_isub hX dX1_moveFrom_17 ?_
      refine g_ishr hX dX1_moveFrom_18 ?_
      refine g_iconst (v := (nI 1)) hX dX1_moveFrom_19 (by decide) ?_
      refine g_iand hX dX1_moveFrom_20 ?_
      refine g_if_eq (tgt := 26) hX dX1_moveFrom_21 (by decide) (fun c3 => ?_) (fun c3 => ?_)
      · refine g_iconst (v := (nI 0)) hX dX1_moveFrom_26 (by decide) ?_
        refine g_ireturn hX hr dX1_moveFrom_27 (Nat.le_refl _) (Nat.le_refl _)  ?_
        exact ⟨by simp [mvI, c1, c2, c3, gn_ilt.mp c2], rfl, rfl⟩
      · refine g_iconst (v := (-1)) hX dX1_moveFrom_24 (by decide) ?_
        refine g_ireturn hX hr dX1_moveFrom_25 (Nat.le_refl _) (Nat.le_refl _)  ?_
        exact ⟨by simp [mvI, c1, c2, c3, gn_ilt.mp c2], rfl, rfl⟩
  · refine g_iconst (v := (nI 1)) hX dX1_moveFrom_8 (by decide) ?_
    refine g_ireturn hX hr dX1_moveFrom_9 (Nat.le_refl _) (Nat.le_refl _)  ?_
    exact ⟨by simp [mvI, c1], rfl, rfl⟩
set_option maxRecDepth 20000 in
theorem kX1_noteRow {l : Launch} {K : gw_K} (hst : l.stackTraces = false) {u n : Nat} {h : gw_H} {p : Nat → Nat} {sn : Nat → Int64} {cm rr : Int32}  (f0 : h u = (oB 1 [.ref (u + 1), .ref (u + 2), .ref (u + 3), .ref (u + 4), .int cm, .int rr])) (f1 : h (u + 1) = (aI 6 (fun b => nI (p b)))) (f4 : h (u + 4) = (aJ 122 sn)) (hp : vplc p) : Ctr l K mX1_noteRow [.ref u] h n 0 0 (PQ (none) (hs (hs h u (oB 1 [.ref (u + 1), .ref (u + 2), .ref (u + 3), .ref (u + 4), .int cm, .int (rrI sn (keyN p) rr)])) (u + 4) (aJ 122 (noteI sn (keyN p)))) n) (PX0) := by
  refine Ctr.of hst pn_X1_noteRow (Nat.le_of_ble_eq_true rfl) (fun X hX hr hE => ?_)
  have hX : FX l K X cX1_noteRow RX1 0 0 0 0 := hX
  show GW X 0 [some (.ref u), none, none, none, none] [] h n 0 0
  refine g_iconst (v := (nI 0)) hX dX1_noteRow_0 (by decide) ?_
  refine g_istore_n (i := 1) hX dX1_noteRow_1 rfl (Nat.le_of_ble_eq_true rfl) rfl ?_
  refine g_iconst (v := (nI 0)) hX dX1_noteRow_2 (by decide) ?_
  refine g_istore_n (i := 2) hX dX1_noteRow_3 rfl (Nat.le_of_ble_eq_true rfl) rfl ?_
  refine g_for (P := fun (i : Nat) (s : Nat) => GW X 4 [some (.ref u), some (.int (nI s)), some (.int (nI i)), none, none] [] h n 0 0) (step := fun i s => s * 6 + p i) 5 0 ?_ ?_
  · intro i1 s2 hi1 es2 ihi1
    have ihi1 : GW X 4 [some (.ref u), some (.int (nI (s2 * 6 + p i1))), some (.int (nI (i1 + 1))), none, none] [] h n 0 0 := ihi1
    refine g_iload_n hX dX1_noteRow_4 rfl rfl ?_
    refine g_iconst (v := (nI 5)) hX dX1_noteRow_5 (by decide) ?_
    refine g_icmp_geN (tgt := 27) hX dX1_noteRow_6 (by decide) (by omega) (fun c3 => absurd c3 (by omega)) (fun c3 => ?_)
    refine g_iload_n hX dX1_noteRow_9 rfl rfl ?_
    refine g_bipush (v := (nI 6)) hX dX1_noteRow_10 (by decide) ?_
    refine g_imulN hX dX1_noteRow_12 ?_
    refine g_aload_n hX dX1_noteRow_13 rfl rfl ?_
    refine g_getf hX dX1_noteRow_14 fl_X1_9 (f0) rfl ?_
    refine g_iload_n hX dX1_noteRow_17 rfl rfl ?_
    refine g_iaload hX dX1_noteRow_18 (f1) (i1) (by omega) rfl (by omega) ?_
    refine g_iaddN hX dX1_noteRow_19 ?_
    refine g_istore_n (i := 1) hX dX1_noteRow_20 rfl (Nat.le_of_ble_eq_true rfl) rfl ?_
    refine g_iinc (v := (nI (i1 + 1))) hX dX1_noteRow_21 rfl rfl (gn_inc _ _) ?_
    refine g_goto (tgt := 4) hX dX1_noteRow_24 (by decide) ?_
    refine g_cv ihi1 (by simp [c3]) rfl
  · show GW X 4 [some (.ref u), some (.int (nI (keyN p))), some (.int (nI 5)), none, none] [] h n 0 0
    refine g_iload_n hX dX1_noteRow_4 rfl rfl ?_
    refine g_iconst (v := (nI 5)) hX dX1_noteRow_5 (by decide) ?_
    refine g_icmp_ge (tgt := 27) hX dX1_noteRow_6 (by decide) (fun _ => ?_) (fun c => absurd (by decide) c)
    have hkl := keyN_lt hp
    refine g_iload_n hX dX1_noteRow_27 rfl rfl ?_
    refine g_bipush (v := (nI 64)) hX dX1_noteRow_28 (by decide) ?_
    refine g_idivN hX dX1_noteRow_30 (by omega) (by omega) (by omega) ?_
    refine g_istore_n (i := 2) hX dX1_noteRow_31 rfl (Nat.le_of_ble_eq_true rfl) rfl ?_
    refine g_iload_n hX dX1_noteRow_32 rfl rfl ?_
    refine g_if_ltN (tgt := 42) hX dX1_noteRow_33 (by decide) (by omega) (fun c4 => absurd c4 (by omega)) (fun c4 => ?_)
    refine g_iload_n hX dX1_noteRow_36 rfl rfl ?_
    refine g_bipush (v := (nI 122)) hX dX1_noteRow_37 (by decide) ?_
    refine g_icmp_ltN (tgt := 43) hX dX1_noteRow_39 (by decide) (by omega) (fun c5 => ?_) (fun c5 => absurd c5 (by omega))
    refine g_lconst (v := 1) hX dX1_noteRow_43 (by decide) ?_
    refine g_iload_n hX dX1_noteRow_44 rfl rfl ?_
    refine g_bipush (v := (nI 64)) hX dX1_noteRow_45 (by decide) ?_
    refine g_iremN hX dX1_noteRow_47 (by omega) (by omega) (by omega) ?_
    refine g_lshl hX dX1_noteRow_48 ?_
    refine g_lstore_n (i := 3) hX dX1_noteRow_49 rfl (Nat.le_of_ble_eq_true rfl) rfl ?_
    refine g_aload_n hX dX1_noteRow_50 rfl rfl ?_
    refine g_getf hX dX1_noteRow_51 fl_X1_21 (f0) rfl ?_
    refine g_iload_n hX dX1_noteRow_54 rfl rfl ?_
    refine g_laload hX dX1_noteRow_55 (f4) ((keyN p) / 64) (by omega) rfl (by omega) ?_
    refine g_lload_n hX dX1_noteRow_56 rfl rfl ?_
    refine g_land hX dX1_noteRow_57 ?_
    refine g_lconst (v := 0) hX dX1_noteRow_58 (by decide) ?_
    refine g_lcmp hX dX1_noteRow_59 ?_
    refine g_if_eq (tgt := 73) hX dX1_noteRow_60 (by decide) (fun c6 => ?_) (fun c6 => ?_)
    · refine g_aload_n hX dX1_noteRow_73 rfl rfl ?_
      refine g_getf hX dX1_noteRow_74 fl_X1_21 (f0) rfl ?_
      refine g_iload_n hX dX1_noteRow_77 rfl rfl ?_
      refine g_dup2 hX dX1_noteRow_78 rfl rfl ?_
      refine g_laload hX dX1_noteRow_79 (f4) ((keyN p) / 64) (by omega) rfl (by omega) ?_
      refine g_lload_n hX dX1_noteRow_80 rfl rfl ?_
      refine g_lor hX dX1_noteRow_81 ?_
      refine g_lastore hX dX1_noteRow_82 (f4) ((keyN p) / 64) (by omega) rfl (by omega) ?_
      refine g_return hX hr dX1_noteRow_83 (Nat.le_refl _) (Nat.le_refl _)  ?_
      have cc : lg_cmp (sn (keyN p / 64) &&& bitL (keyN p)) 0 = 0 := c6
      exact ⟨rfl, by rw [rrI, if_pos cc, hs_id f0]; rfl, rfl⟩
    · refine g_aload_n hX dX1_noteRow_63 rfl rfl ?_
      refine g_dup hX dX1_noteRow_64 rfl ?_
      refine g_getf hX dX1_noteRow_65 fl_X1_35 (f0) rfl ?_
      refine g_iconst (v := (nI 1)) hX dX1_noteRow_68 (by decide) ?_
      refine g_iadd hX dX1_noteRow_69 ?_
      refine g_putI hX dX1_noteRow_70 fl_X1_35 (f0) (Nat.le_of_ble_eq_true rfl) ?_
      show GW X 73 [some (.ref u), some (.int (nI (keyN p))), some (.int (nI ((keyN p) / 64))), some (.long (1 <<< (((nI ((keyN p) % 64))).toInt64 &&& 63))), none] [] (hs h u (oB 1 [.ref (u + 1), .ref (u + 2), .ref (u + 3), .ref (u + 4), .int cm, .int (rr + (nI 1))])) n 0 0
      refine g_aload_n hX dX1_noteRow_73 rfl rfl ?_
      refine g_getf hX dX1_noteRow_74 fl_X1_21 (hs_eq _ _ _) rfl ?_
      refine g_iload_n hX dX1_noteRow_77 rfl rfl ?_
      refine g_dup2 hX dX1_noteRow_78 rfl rfl ?_
      refine g_laload hX dX1_noteRow_79 ((hs_ne (by omega)).trans (f4)) ((keyN p) / 64) (by omega) rfl (by omega) ?_
      refine g_lload_n hX dX1_noteRow_80 rfl rfl ?_
      refine g_lor hX dX1_noteRow_81 ?_
      refine g_lastore hX dX1_noteRow_82 ((hs_ne (by omega)).trans (f4)) ((keyN p) / 64) (by omega) rfl (by omega) ?_
      refine g_return hX hr dX1_noteRow_83 (Nat.le_refl _) (Nat.le_refl _)  ?_
      have cc : ¬ lg_cmp (sn (keyN p / 64) &&& bitL (keyN p)) 0 = 0 := c6
      exact ⟨rfl, by rw [rrI, if_neg cc]; rfl, rfl⟩
set_option maxRecDepth 20000 in
theorem kX1_begin {l : Launch} {K : gw_K} (hst : l.stackTraces = false) {u n : Nat} {h : gw_H} {pl mv ma : Nat → Int32} {sn : Nat → Int64} {cm rr : Int32} (f0 : h u = (oB 1 [.ref (u + 1), .ref (u + 2), .ref (u + 3), .ref (u + 4), .int cm, .int rr])) (f1 : h (u + 1) = (aI 6 pl)) (f2 : h (u + 2) = (aI 6 mv)) (f3 : h (u + 3) = (aI 6 ma)) (f4 : h (u + 4) = (aJ 122 sn))  : Ctr l K mX1_begin [.ref u] h n 0 0 (PQ (none) (putT h u (tbegin ma)) n) (PX0) := by
  refine Ctr.of hst pn_X1_begin (Nat.le_of_ble_eq_true rfl) (fun X hX hr hE => ?_)
  have hX : FX l K X cX1_begin RX1 1 24 0 0 := hX
  show GW X 0 [some (.ref u), none] [] h n 0 0
  refine g_aload_n hX dX1_begin_0 rfl rfl ?_
  refine g_getf hX dX1_begin_1 fl_X1_21 (f0) rfl ?_
  refine g_lconst (v := 0) hX dX1_begin_4 (by decide) ?_
  refine g_callS (As := [.ref (u + 4), .long 0]) hX dX1_begin_5 cb_J7_fill_d0a16 ml_X1_25 st_J7_fill_d0a16 rfl rfl (kJ7_fill_d0a16 hst (f4) (by omega)) (Nat.le_of_ble_eq_true rfl) (Nat.le_of_ble_eq_true rfl) (by omega) (by omega) (Nat.le_of_ble_eq_true rfl) GX.no (pq ?_)
  show GW X 8 [some (.ref u), none] [] (hs h (u + 4) (aJ 122 (fun _ => 0))) n 0 0
  refine g_iconst (v := (nI 0)) hX dX1_begin_8 (by decide) ?_
  refine g_istore_n (i := 1) hX dX1_begin_9 rfl (Nat.le_of_ble_eq_true rfl) rfl ?_
  refine g_cg (L' := [some (.ref u), some (.int (nI 0))]) (h' := (hs (hs (hs h (u + 1) (aI 6 (ltA 0 (fun b => nI b) pl))) (u + 2) (aI 6 (ltA 0 (fun _ => nI 0) mv))) (u + 4) (aJ 122 (fun _ => 0)))) (by rfl) (by rw [ltA_0, ltA_0, hs_id f1, hs_id f2]) ?_
  refine g_loop (P := fun (i : Nat) => GW X 10 [some (.ref u), some (.int (nI i))] [] (hs (hs (hs h (u + 1) (aI 6 (ltA i (fun b => nI b) pl))) (u + 2) (aI 6 (ltA i (fun _ => nI 0) mv))) (u + 4) (aJ 122 (fun _ => 0))) n 0 0) (fun i => True) 6 trivial ?_ ?_
  · intro i1 hi1 Ii1 ihi1
    have ihi1 : True → GW X 10 [some (.ref u), some (.int (nI (i1 + 1)))] [] (hs (hs (hs h (u + 1) (aI 6 (ltA (i1 + 1) (fun b => nI b) pl))) (u + 2) (aI 6 (ltA (i1 + 1) (fun _ => nI 0) mv))) (u + 4) (aJ 122 (fun _ => 0))) n 0 0 := ihi1
    refine g_iload_n hX dX1_begin_10 rfl rfl ?_
    refine g_bipush (v := (nI 6)) hX dX1_begin_11 (by decide) ?_
    refine g_icmp_geN (tgt := 36) hX dX1_begin_13 (by decide) (by omega) (fun c2 => absurd c2 (by omega)) (fun c2 => ?_)
    refine g_aload_n hX dX1_begin_16 rfl rfl ?_
    refine g_getf hX dX1_begin_17 fl_X1_9 ((hs_ne (by omega)).trans ((hs_ne (by omega)).trans ((hs_ne (by omega)).trans (f0)))) rfl ?_
    refine g_iload_n hX dX1_begin_20 rfl rfl ?_
    refine g_iload_n hX dX1_begin_21 rfl rfl ?_
    refine g_iastore hX dX1_begin_22 ((hs_ne (by omega)).trans ((hs_ne (by omega)).trans (hs_eq _ _ _))) (i1) (by omega) rfl (by omega) ?_
    refine g_aload_n hX dX1_begin_23 rfl rfl ?_
    refine g_getf hX dX1_begin_24 fl_X1_15 ((hs_ne (by omega)).trans ((hs_ne (by omega)).trans ((hs_ne (by omega)).trans ((hs_ne (by omega)).trans (f0))))) rfl ?_
    refine g_iload_n hX dX1_begin_27 rfl rfl ?_
    refine g_iconst (v := (nI 0)) hX dX1_begin_28 (by decide) ?_
    refine g_iastore hX dX1_begin_29 ((hs_ne (by omega)).trans ((hs_ne (by omega)).trans (hs_eq _ _ _))) (i1) (by omega) rfl (by omega) ?_
    refine g_iinc (v := (nI (i1 + 1))) hX dX1_begin_30 rfl rfl (gn_inc _ _) ?_
    refine g_goto (tgt := 10) hX dX1_begin_33 (by decide) ?_
    refine g_cv (ihi1 (trivial)) rfl (by rw [← ltA_up i1 (fun b => nI b) pl rfl, ← ltA_up i1 (fun _ => nI 0) mv rfl]; simp (disch := omega) only [hs_hs, hs_cm])
  · intro IN3
    refine g_iload_n hX dX1_begin_10 rfl rfl ?_
    refine g_bipush (v := (nI 6)) hX dX1_begin_11 (by decide) ?_
    refine g_icmp_ge (tgt := 36) hX dX1_begin_13 (by decide) (fun _ => ?_) (fun c => absurd (by decide) c)
    refine g_heq (h' := (hs (hs (hs h (u + 1) (aI 6 (fun b => nI ((fun b => b) b)))) (u + 2) (aI 6 (fun _ => nI 0))) (u + 4) (aJ 122 (fun _ => 0)))) (ceq_hs (ceq_hs (ceq_hs (fun _ => ceq_r) (ceq_I fun k hk => ltA_N hk)) (ceq_I fun k hk => ltA_N hk)) ceq_r) ?_
    show GW X 36 [some (.ref u), some (.int (nI 6))] [] (hs (hs (hs h (u + 1) (aI 6 (fun b => nI ((fun b => b) b)))) (u + 2) (aI 6 (fun _ => nI 0))) (u + 4) (aJ 122 (fun _ => 0))) n 0 0
    refine g_aload_n hX dX1_begin_36 rfl rfl ?_
    refine g_iconst (v := (nI 0)) hX dX1_begin_37 (by decide) ?_
    refine g_putI hX dX1_begin_38 fl_X1_31 ((hs_ne (by omega)).trans ((hs_ne (by omega)).trans ((hs_ne (by omega)).trans (f0)))) (Nat.le_of_ble_eq_true rfl) ?_
    show GW X 41 [some (.ref u), some (.int (nI 6))] [] (hs (hs (hs (hs h (u + 1) (aI 6 (fun b => nI ((fun b => b) b)))) (u + 2) (aI 6 (fun _ => nI 0))) (u + 4) (aJ 122 (fun _ => 0))) u (oB 1 [.ref (u + 1), .ref (u + 2), .ref (u + 3), .ref (u + 4), .int (nI 0), .int rr])) n 0 0
    refine g_aload_n hX dX1_begin_41 rfl rfl ?_
    refine g_iconst (v := (nI 0)) hX dX1_begin_42 (by decide) ?_
    refine g_putI hX dX1_begin_43 fl_X1_35 (hs_eq _ _ _) (Nat.le_of_ble_eq_true rfl) ?_
    refine g_cg rfl hs_hs ?_
    show GW X 46 [some (.ref u), some (.int (nI 6))] [] (hs (hs (hs (hs h (u + 1) (aI 6 (fun b => nI ((fun b => b) b)))) (u + 2) (aI 6 (fun _ => nI 0))) (u + 4) (aJ 122 (fun _ => 0))) u (oB 1 [.ref (u + 1), .ref (u + 2), .ref (u + 3), .ref (u + 4), .int (nI 0), .int (nI 0)])) n 0 0
    refine g_aload_n hX dX1_begin_46 rfl rfl ?_
    refine g_callV (As := []) hX dX1_begin_47 cb_X1_noteRow ml_X1_38 im_X1_noteRow se_X1_noteRow rfl rfl (hs_eq _ _ _) ⟨_, rfl, rfl⟩ (kX1_noteRow hst (hs_eq _ _ _) ((hs_ne (by omega)).trans ((hs_ne (by omega)).trans ((hs_ne (by omega)).trans (hs_eq _ _ _)))) ((hs_ne (by omega)).trans (hs_eq _ _ _)) (fun b hb => hb)) (Nat.le_of_ble_eq_true rfl) (Nat.le_of_ble_eq_true rfl) (by omega) (by omega) (Nat.le_of_ble_eq_true rfl) GX.no (pq ?_)
    show GW X 50 [some (.ref u), some (.int (nI 6))] [] (hs (hs (hs (hs (hs (hs h (u + 1) (aI 6 (fun b => nI ((fun b => b) b)))) (u + 2) (aI 6 (fun _ => nI 0))) (u + 4) (aJ 122 (fun _ => 0))) u (oB 1 [.ref (u + 1), .ref (u + 2), .ref (u + 3), .ref (u + 4), .int (nI 0), .int (nI 0)])) u (oB 1 [.ref (u + 1), .ref (u + 2), .ref (u + 3), .ref (u + 4), .int (nI 0), .int (rrI (fun _ => 0) (keyN (fun b => b)) (nI 0))])) (u + 4) (aJ 122 (noteI (fun _ => 0) (keyN (fun b => b))))) n 0 0
    refine g_return hX hr dX1_begin_50 (Nat.le_refl _) (Nat.le_refl _)  ?_
    refine ⟨rfl, Eq.trans (b := (hs (hs (hs (hs h u (oB 1 [.ref (u + 1), .ref (u + 2), .ref (u + 3), .ref (u + 4), .int (nI 0), .int (rrI (fun _ => 0) (keyN (fun b => b)) (nI 0))])) (u + 1) (aI 6 (fun b => nI ((fun b => b) b)))) (u + 2) (aI 6 (fun _ => nI 0))) (u + 4) (aJ 122 (noteI (fun _ => 0) (keyN (fun b => b)))))) (by first | (rw [hs_cm (k := u) (j := u + 4) _ _ _ (by omega), hs_cm (k := u) (j := u + 2) _ _ _ (by omega), hs_cm (k := u) (j := u + 1) _ _ _ (by omega), hs_cm (k := u) (j := u + 4) _ _ _ (by omega), hs_cm (k := u) (j := u + 2) _ _ _ (by omega), hs_cm (k := u) (j := u + 1) _ _ _ (by omega), hs_hs (k := u), hs_hs (k := u + 4)]; done) | (rw [hs_cm (k := u) (j := u + 4) _ _ _ (by omega), hs_cm (k := u) (j := u + 2) _ _ _ (by omega), hs_cm (k := u) (j := u + 1) _ _ _ (by omega), hs_cm (k := u) (j := u + 4) _ _ _ (by omega), hs_cm (k := u) (j := u + 2) _ _ _ (by omega), hs_cm (k := u) (j := u + 1) _ _ _ (by omega), hs_hs (k := u), hs_hs (k := u + 4)]; rfl)) ?_, rfl⟩
    show _ = hs (hs (hs (hs (hs h u (oB 1 [.ref (u + 1), .ref (u + 2), .ref (u + 3), .ref (u + 4), .int (nI 0), .int (rrI (fun _ => 0) (keyN (fun b => b)) (nI 0))])) (u + 1) (aI 6 (fun b => nI ((fun b => b) b)))) (u + 2) (aI 6 (fun _ => nI 0))) (u + 3) (aI 6 ma)) (u + 4) (aJ 122 (noteI (fun _ => 0) (keyN (fun b => b))))
    rw [hs_id (k := u + 3) (e := aI 6 ma) ((hs_ne (by omega)).trans ((hs_ne (by omega)).trans ((hs_ne (by omega)).trans f3)))]
set_option maxRecDepth 20000 in
theorem kX1_makeChange {l : Launch} {K : gw_K} (hst : l.stackTraces = false) {u n : Nat} {h : gw_H} {p : Nat → Nat} {mv : Nat → Int32} {ma : Nat → Int32} {sn : Nat → Int64} {cm rr : Int32} {c : Int32} (f0 : h u = (oB 1 [.ref (u + 1), .ref (u + 2), .ref (u + 3), .ref (u + 4), .int cm, .int rr])) (f1 : h (u + 1) = (aI 6 (fun b => nI (p b)))) (f2 : h (u + 2) = (aI 6 mv)) (f3 : h (u + 3) = (aI 6 ma)) (f4 : h (u + 4) = (aJ 122 sn)) (hc : vchg c) (hp : vplc p) : Ctr l K mX1_makeChange [.ref u, .int c] h n 0 0 (PQ (none) (hs (hs (hs (hs (hs h u (oB 1 [.ref (u + 1), .ref (u + 2), .ref (u + 3), .ref (u + 4), .int (cm + nI 1), .int (rrI sn (keyN (tplc p c)) rr)])) (u + 1) (aI 6 (fun b => nI ((tplc p c) b)))) (u + 2) (aI 6 (fun b => mvI (nI (p b)) c))) (u + 3) (aI 6 mv)) (u + 4) (aJ 122 (noteI sn (keyN (tplc p c))))) n) (PX0) := by
  refine Ctr.of hst pn_X1_makeChange (Nat.le_of_ble_eq_true rfl) (fun X hX hr hE => ?_)
  have hX : FX l K X cX1_makeChange RX1 1 24 0 0 := hX
  show GW X 0 [some (.ref u), some (.int c), none, none] [] h n 0 0
  refine g_iconst (v := (nI 0)) hX dX1_makeChange_0 (by decide) ?_
  refine g_istore_n (i := 2) hX dX1_makeChange_1 rfl (Nat.le_of_ble_eq_true rfl) rfl ?_
  refine g_cg (L' := [some (.ref u), some (.int c), some (.int (nI 0)), none]) (h' := (hs (hs (hs h (u + 1) (aI 6 (ltA 0 (fun b => nI (tplc p c b)) (fun b => nI (p b))))) (u + 2) (aI 6 (ltA 0 (fun b => mvI (nI (p b)) c) mv))) (u + 3) (aI 6 (ltA 0 mv ma)))) (by rfl) (by rw [ltA_0, ltA_0, ltA_0]; rw [hs_id f1, hs_id f2, hs_id f3]) ?_
  refine g_loop (P := fun (i : Nat) => GW X 2 [some (.ref u), some (.int c), some (.int (nI i)), none] [] (hs (hs (hs h (u + 1) (aI 6 (ltA i (fun b => nI (tplc p c b)) (fun b => nI (p b))))) (u + 2) (aI 6 (ltA i (fun b => mvI (nI (p b)) c) mv))) (u + 3) (aI 6 (ltA i mv ma))) n 0 0) (fun i => True) 6 trivial ?_ ?_
  · intro i1 hi1 Ii1 ihi1
    have ihi1 : True → GW X 2 [some (.ref u), some (.int c), some (.int (nI (i1 + 1))), none] [] (hs (hs (hs h (u + 1) (aI 6 (ltA (i1 + 1) (fun b => nI (tplc p c b)) (fun b => nI (p b))))) (u + 2) (aI 6 (ltA (i1 + 1) (fun b => mvI (nI (p b)) c) mv))) (u + 3) (aI 6 (ltA (i1 + 1) mv ma))) n 0 0 := ihi1
    refine g_iload_n hX dX1_makeChange_2 rfl rfl ?_
    refine g_bipush (v := (nI 6)) hX dX1_makeChange_3 (by decide) ?_
    refine g_icmp_geN (tgt := 54) hX dX1_makeChange_5 (by decide) (by omega) (fun c2 => absurd c2 (by omega)) (fun c2 => ?_)
    refine g_aload_n hX dX1_makeChange_8 rfl rfl ?_
    refine g_getf hX dX1_makeChange_9 fl_X1_9 ((hs_ne (by omega)).trans ((hs_ne (by omega)).trans ((hs_ne (by omega)).trans (f0)))) rfl ?_
    refine g_iload_n hX dX1_makeChange_12 rfl rfl ?_
    refine g_iaload hX dX1_makeChange_13 ((hs_ne (by omega)).trans ((hs_ne (by omega)).trans (hs_eq _ _ _))) (i1) (by omega) rfl (by omega) ?_
    refine g_top (v' := .int (nI (p i1))) (congrArg Value.int (ltA_at _ _ _)) ?_
    refine g_iload_n hX dX1_makeChange_14 rfl rfl ?_
    refine g_callS (As := [.int (nI (p i1)), .int c]) hX dX1_makeChange_15 cb_X1_moveFrom ml_X1_41 st_X1_moveFrom rfl rfl (kX1_moveFrom hst) (Nat.le_of_ble_eq_true rfl) (Nat.le_of_ble_eq_true rfl) (by omega) (by omega) (Nat.le_of_ble_eq_true rfl) GX.no (pq ?_)
    show GW X 18 [some (.ref u), some (.int c), some (.int (nI i1)), none] [.int (mvI (nI (p i1)) c)] (hs (hs (hs h (u + 1) (aI 6 (ltA i1 (fun b => nI (tplc p c b)) (fun b => nI (p b))))) (u + 2) (aI 6 (ltA i1 (fun b => mvI (nI (p b)) c) mv))) (u + 3) (aI 6 (ltA i1 mv ma))) n 0 0
    refine g_istore_n (i := 3) hX dX1_makeChange_18 rfl (Nat.le_of_ble_eq_true rfl) rfl ?_
    refine g_aload_n hX dX1_makeChange_19 rfl rfl ?_
    refine g_getf hX dX1_makeChange_20 fl_X1_18 ((hs_ne (by omega)).trans ((hs_ne (by omega)).trans ((hs_ne (by omega)).trans (f0)))) rfl ?_
    refine g_iload_n hX dX1_makeChange_23 rfl rfl ?_
    refine g_aload_n hX dX1_makeChange_24 rfl rfl ?_
    refine g_getf hX dX1_makeChange_25 fl_X1_15 ((hs_ne (by omega)).trans ((hs_ne (by omega)).trans ((hs_ne (by omega)).trans (f0)))) rfl ?_
    refine g_iload_n hX dX1_makeChange_28 rfl rfl ?_
    refine g_iaload hX dX1_makeChange_29 ((hs_ne (by omega)).trans (hs_eq _ _ _)) (i1) (by omega) rfl (by omega) ?_
    refine g_top (v' := .int (mv i1)) (congrArg Value.int (ltA_at _ _ _)) ?_
    refine g_iastore hX dX1_makeChange_30 (hs_eq _ _ _) (i1) (by omega) rfl (by omega) ?_
    refine g_cg rfl hs_hs ?_
    refine g_aload_n hX dX1_makeChange_31 rfl rfl ?_
    refine g_getf hX dX1_makeChange_32 fl_X1_15 ((hs_ne (by omega)).trans ((hs_ne (by omega)).trans ((hs_ne (by omega)).trans (f0)))) rfl ?_
    refine g_iload_n hX dX1_makeChange_35 rfl rfl ?_
    refine g_iload_n hX dX1_makeChange_36 rfl rfl ?_
    refine g_iastore hX dX1_makeChange_37 ((hs_ne (by omega)).trans (hs_eq _ _ _)) (i1) (by omega) rfl (by omega) ?_
    refine g_aload_n hX dX1_makeChange_38 rfl rfl ?_
    refine g_getf hX dX1_makeChange_39 fl_X1_9 ((hs_ne (by omega)).trans ((hs_ne (by omega)).trans ((hs_ne (by omega)).trans ((hs_ne (by omega)).trans (f0))))) rfl ?_
    refine g_iload_n hX dX1_makeChange_42 rfl rfl ?_
    refine g_dup2 hX dX1_makeChange_43 rfl rfl ?_
    refine g_iaload hX dX1_makeChange_44 ((hs_ne (by omega)).trans ((hs_ne (by omega)).trans ((hs_ne (by omega)).trans (hs_eq _ _ _)))) (i1) (by omega) rfl (by omega) ?_
    refine g_top (v' := .int (nI (p i1))) (congrArg Value.int (ltA_at _ _ _)) ?_
    refine g_iload_n hX dX1_makeChange_45 rfl rfl ?_
    refine g_iadd hX dX1_makeChange_46 ?_
    refine g_iastore hX dX1_makeChange_47 ((hs_ne (by omega)).trans ((hs_ne (by omega)).trans ((hs_ne (by omega)).trans (hs_eq _ _ _)))) (i1) (by omega) rfl (by omega) ?_
    refine g_iinc (v := (nI (i1 + 1))) hX dX1_makeChange_48 rfl rfl (gn_inc _ _) ?_
    refine g_goto (tgt := 2) hX dX1_makeChange_51 (by decide) ?_
    refine g_kill 3 ?_
    refine g_cv (ihi1 (trivial)) rfl (by rw [← ltA_up i1 (fun b => nI (tplc p c b)) (fun b => nI (p b)) (tplc_eq hc hp hi1), ← ltA_up i1 (fun b => mvI (nI (p b)) c) mv rfl, ← ltA_up i1 mv ma rfl]; simp (disch := omega) only [hs_hs, hs_cm])
  · intro IN3
    refine g_iload_n hX dX1_makeChange_2 rfl rfl ?_
    refine g_bipush (v := (nI 6)) hX dX1_makeChange_3 (by decide) ?_
    refine g_icmp_ge (tgt := 54) hX dX1_makeChange_5 (by decide) (fun _ => ?_) (fun c => absurd (by decide) c)
    refine g_heq (h' := (hs (hs (hs h (u + 1) (aI 6 (fun b => nI ((tplc p c) b)))) (u + 2) (aI 6 (fun b => mvI (nI (p b)) c))) (u + 3) (aI 6 mv))) (ceq_hs (ceq_hs (ceq_hs (fun _ => ceq_r) (ceq_I fun k hk => ltA_N hk)) (ceq_I fun k hk => ltA_N hk)) (ceq_I fun k hk => ltA_N hk)) ?_
    show GW X 54 [some (.ref u), some (.int c), some (.int (nI 6)), none] [] (hs (hs (hs h (u + 1) (aI 6 (fun b => nI ((tplc p c) b)))) (u + 2) (aI 6 (fun b => mvI (nI (p b)) c))) (u + 3) (aI 6 mv)) n 0 0
    refine g_aload_n hX dX1_makeChange_54 rfl rfl ?_
    refine g_dup hX dX1_makeChange_55 rfl ?_
    refine g_getf hX dX1_makeChange_56 fl_X1_31 ((hs_ne (by omega)).trans ((hs_ne (by omega)).trans ((hs_ne (by omega)).trans (f0)))) rfl ?_
    refine g_iconst (v := (nI 1)) hX dX1_makeChange_59 (by decide) ?_
    refine g_iadd hX dX1_makeChange_60 ?_
    refine g_putI hX dX1_makeChange_61 fl_X1_31 ((hs_ne (by omega)).trans ((hs_ne (by omega)).trans ((hs_ne (by omega)).trans (f0)))) (Nat.le_of_ble_eq_true rfl) ?_
    show GW X 64 [some (.ref u), some (.int c), some (.int (nI 6)), none] [] (hs (hs (hs (hs h (u + 1) (aI 6 (fun b => nI ((tplc p c) b)))) (u + 2) (aI 6 (fun b => mvI (nI (p b)) c))) (u + 3) (aI 6 mv)) u (oB 1 [.ref (u + 1), .ref (u + 2), .ref (u + 3), .ref (u + 4), .int (cm + (nI 1)), .int rr])) n 0 0
    refine g_aload_n hX dX1_makeChange_64 rfl rfl ?_
    refine g_callV (As := []) hX dX1_makeChange_65 cb_X1_noteRow ml_X1_38 im_X1_noteRow se_X1_noteRow rfl rfl (hs_eq _ _ _) ⟨_, rfl, rfl⟩ (kX1_noteRow hst (hs_eq _ _ _) ((hs_ne (by omega)).trans ((hs_ne (by omega)).trans ((hs_ne (by omega)).trans (hs_eq _ _ _)))) ((hs_ne (by omega)).trans ((hs_ne (by omega)).trans ((hs_ne (by omega)).trans ((hs_ne (by omega)).trans (f4))))) (tplc_ok hc hp)) (Nat.le_of_ble_eq_true rfl) (Nat.le_of_ble_eq_true rfl) (by omega) (by omega) (Nat.le_of_ble_eq_true rfl) GX.no (pq ?_)
    show GW X 68 [some (.ref u), some (.int c), some (.int (nI 6)), none] [] (hs (hs (hs (hs (hs (hs h (u + 1) (aI 6 (fun b => nI ((tplc p c) b)))) (u + 2) (aI 6 (fun b => mvI (nI (p b)) c))) (u + 3) (aI 6 mv)) u (oB 1 [.ref (u + 1), .ref (u + 2), .ref (u + 3), .ref (u + 4), .int (cm + (nI 1)), .int rr])) u (oB 1 [.ref (u + 1), .ref (u + 2), .ref (u + 3), .ref (u + 4), .int (cm + (nI 1)), .int (rrI sn (keyN (tplc p c)) rr)])) (u + 4) (aJ 122 (noteI sn (keyN (tplc p c))))) n 0 0
    refine g_return hX hr dX1_makeChange_68 (Nat.le_refl _) (Nat.le_refl _)  ?_
    exact ⟨rfl, (by first | (rw [hs_cm (k := u) (j := u + 3) _ _ _ (by omega), hs_cm (k := u) (j := u + 2) _ _ _ (by omega), hs_cm (k := u) (j := u + 1) _ _ _ (by omega), hs_cm (k := u) (j := u + 3) _ _ _ (by omega), hs_cm (k := u) (j := u + 2) _ _ _ (by omega), hs_cm (k := u) (j := u + 1) _ _ _ (by omega), hs_hs (k := u)]; done) | (rw [hs_cm (k := u) (j := u + 3) _ _ _ (by omega), hs_cm (k := u) (j := u + 2) _ _ _ (by omega), hs_cm (k := u) (j := u + 1) _ _ _ (by omega), hs_cm (k := u) (j := u + 3) _ _ _ (by omega), hs_cm (k := u) (j := u + 2) _ _ _ (by omega), hs_cm (k := u) (j := u + 1) _ _ _ (by omega), hs_hs (k := u)]; rfl)), rfl⟩
set_option maxRecDepth 20000 in
theorem kX1_hasDodged {l : Launch} {K : gw_K} (hst : l.stackTraces = false) {u n : Nat} {h : gw_H} {mv : Nat → Int32} {ma : Nat → Int32} {cm rr : Int32} {k : Nat} (f0 : h u = (oB 1 [.ref (u + 1), .ref (u + 2), .ref (u + 3), .ref (u + 4), .int cm, .int rr])) (f2 : h (u + 2) = (aI 6 mv)) (f3 : h (u + 3) = (aI 6 ma)) (hk6 : k < 6) : Ctr l K mX1_hasDodged [.ref u, .int (nI k)] h n 0 0 (PQ (some (.int (if dodI mv ma k then nI 1 else nI 0))) h n) (PX0) := by
  refine Ctr.of hst pn_X1_hasDodged (Nat.le_of_ble_eq_true rfl) (fun X hX hr hE => ?_)
  have hX : FX l K X cX1_hasDodged RX1 0 0 0 0 := hX
  show GW X 0 [some (.ref u), some (.int (nI k))] [] h n 0 0
  refine g_iload_n hX dX1_hasDodged_0 rfl rfl ?_
  refine g_if_ltN (tgt := 10) hX dX1_hasDodged_1 (by decide) (by omega) (fun c1 => absurd c1 (by omega)) (fun c1 => ?_)
  refine g_iload_n hX dX1_hasDodged_4 rfl rfl ?_
  refine g_bipush (v := (nI 6)) hX dX1_hasDodged_5 (by decide) ?_
  refine g_icmp_ltN (tgt := 12) hX dX1_hasDodged_7 (by decide) (by omega) (fun c2 => ?_) (fun c2 => absurd c2 (by omega))
  refine g_aload_n hX dX1_hasDodged_12 rfl rfl ?_
  refine g_getf hX dX1_hasDodged_13 fl_X1_15 (f0) rfl ?_
  refine g_iload_n hX dX1_hasDodged_16 rfl rfl ?_
  refine g_iaload hX dX1_hasDodged_17 (f2) (k) (by omega) rfl (by omega) ?_
  refine g_if_eq (tgt := 41) hX dX1_hasDodged_18 (by decide) (fun c3 => ?_) (fun c3 => ?_)
  · refine g_iconst (v := (nI 0)) hX dX1_hasDodged_41 (by decide) ?_
    refine g_zreturn hX hr (by decide) dX1_hasDodged_42 (Nat.le_refl _) (Nat.le_refl _)  ?_
    exact ⟨by rw [if_neg (fun q => q.1 c3)], rfl, rfl⟩
  · refine g_aload_n hX dX1_hasDodged_21 rfl rfl ?_
    refine g_getf hX dX1_hasDodged_22 fl_X1_15 (f0) rfl ?_
    refine g_iload_n hX dX1_hasDodged_25 rfl rfl ?_
    refine g_iaload hX dX1_hasDodged_26 (f2) (k) (by omega) rfl (by omega) ?_
    refine g_aload_n hX dX1_hasDodged_27 rfl rfl ?_
    refine g_getf hX dX1_hasDodged_28 fl_X1_18 (f0) rfl ?_
    refine g_iload_n hX dX1_hasDodged_31 rfl rfl ?_
    refine g_iaload hX dX1_hasDodged_32 (f3) (k) (by omega) rfl (by omega) ?_
    refine g_ineg hX dX1_hasDodged_33 ?_
    refine g_icmp_ne (tgt := 41) hX dX1_hasDodged_34 (by decide) (fun c4 => ?_) (fun c4 => ?_)
    · refine g_iconst (v := (nI 0)) hX dX1_hasDodged_41 (by decide) ?_
      refine g_zreturn hX hr (by decide) dX1_hasDodged_42 (Nat.le_refl _) (Nat.le_refl _)  ?_
      exact ⟨by rw [if_neg (fun q => c4 q.2)], rfl, rfl⟩
    · refine g_iconst (v := (nI 1)) hX dX1_hasDodged_37 (by decide) ?_
      refine g_goto (tgt := 42) hX dX1_hasDodged_38 (by decide) ?_
      refine g_zreturn hX hr (by decide) dX1_hasDodged_42 (Nat.le_refl _) (Nat.le_refl _)  ?_
      exact ⟨by rw [if_pos ⟨c3, c4⟩], rfl, rfl⟩
set_option maxRecDepth 20000 in
theorem kX1_bellsAtHome {l : Launch} {K : gw_K} (hst : l.stackTraces = false) {u n : Nat} {h : gw_H} {p : Nat → Nat} {cm rr : Int32}  (f0 : h u = (oB 1 [.ref (u + 1), .ref (u + 2), .ref (u + 3), .ref (u + 4), .int cm, .int rr])) (f1 : h (u + 1) = (aI 6 (fun b => nI (p b)))) (hp : vplc p) : Ctr l K mX1_bellsAtHome [.ref u] h n 0 0 (PQ (some (.int (homeI p))) h n) (PX0) := by
  refine Ctr.of hst pn_X1_bellsAtHome (Nat.le_of_ble_eq_true rfl) (fun X hX hr hE => ?_)
  have hX : FX l K X cX1_bellsAtHome RX1 0 0 0 0 := hX
  show GW X 0 [some (.ref u), none, none] [] h n 0 0
  refine g_iconst (v := (nI 0)) hX dX1_bellsAtHome_0 (by decide) ?_
  refine g_istore_n (i := 1) hX dX1_bellsAtHome_1 rfl (Nat.le_of_ble_eq_true rfl) rfl ?_
  refine g_iconst (v := (nI 0)) hX dX1_bellsAtHome_2 (by decide) ?_
  refine g_istore_n (i := 2) hX dX1_bellsAtHome_3 rfl (Nat.le_of_ble_eq_true rfl) rfl ?_
  refine g_for (P := fun (i : Nat) (s : Int32) => GW X 4 [some (.ref u), some (.int s), some (.int (nI i))] [] h n 0 0) (step := fun i s => if p i = i then s + 1 else s) 6 (nI 0) ?_ ?_
  · intro i1 s2 hi1 es2 ihi1
    have ihi1 : GW X 4 [some (.ref u), some (.int (if p i1 = i1 then s2 + 1 else s2)), some (.int (nI (i1 + 1)))] [] h n 0 0 := ihi1
    have hpb := hp i1 hi1
    refine g_iload_n hX dX1_bellsAtHome_4 rfl rfl ?_
    refine g_bipush (v := (nI 6)) hX dX1_bellsAtHome_5 (by decide) ?_
    refine g_icmp_geN (tgt := 29) hX dX1_bellsAtHome_7 (by decide) (by omega) (fun c3 => absurd c3 (by omega)) (fun c3 => ?_)
    refine g_aload_n hX dX1_bellsAtHome_10 rfl rfl ?_
    refine g_getf hX dX1_bellsAtHome_11 fl_X1_9 (f0) rfl ?_
    refine g_iload_n hX dX1_bellsAtHome_14 rfl rfl ?_
    refine g_iaload hX dX1_bellsAtHome_15 (f1) (i1) (by omega) rfl (by omega) ?_
    refine g_iload_n hX dX1_bellsAtHome_16 rfl rfl ?_
    refine g_icmp_neN (tgt := 23) hX dX1_bellsAtHome_17 (by decide) (by omega) (fun c4 => ?_) (fun c4 => ?_)
    · refine g_iinc (v := (nI (i1 + 1))) hX dX1_bellsAtHome_23 rfl rfl (gn_inc _ _) ?_
      refine g_goto (tgt := 4) hX dX1_bellsAtHome_26 (by decide) ?_
      refine g_cv ihi1 (by simp [c3, c4]) rfl
    · refine g_iinc (v := (s2 + 1)) hX dX1_bellsAtHome_20 rfl rfl (by rfl) ?_
      refine g_iinc (v := (nI (i1 + 1))) hX dX1_bellsAtHome_23 rfl rfl (gn_inc _ _) ?_
      refine g_goto (tgt := 4) hX dX1_bellsAtHome_26 (by decide) ?_
      refine g_cv ihi1 (by simp [c3, c4]) rfl
  · refine g_iload_n hX dX1_bellsAtHome_4 rfl rfl ?_
    refine g_bipush (v := (nI 6)) hX dX1_bellsAtHome_5 (by decide) ?_
    refine g_icmp_ge (tgt := 29) hX dX1_bellsAtHome_7 (by decide) (fun _ => ?_) (fun c => absurd (by decide) c)
    refine g_iload_n hX dX1_bellsAtHome_29 rfl rfl ?_
    refine g_ireturn hX hr dX1_bellsAtHome_30 (Nat.le_refl _) (Nat.le_refl _)  ?_
    exact ⟨rfl, rfl, rfl⟩
set_option maxRecDepth 20000 in
theorem kX1_isRounds {l : Launch} {K : gw_K} (hst : l.stackTraces = false) {u n : Nat} {h : gw_H} {p : Nat → Nat} {cm rr : Int32}  (f0 : h u = (oB 1 [.ref (u + 1), .ref (u + 2), .ref (u + 3), .ref (u + 4), .int cm, .int rr])) (f1 : h (u + 1) = (aI 6 (fun b => nI (p b)))) (hp : vplc p) : Ctr l K mX1_isRounds [.ref u] h n 0 0 (PQ (some (.int (if homeI p = nI 6 then nI 1 else nI 0))) h n) (PX0) := by
  refine Ctr.of hst pn_X1_isRounds (Nat.le_of_ble_eq_true rfl) (fun X hX hr hE => ?_)
  have hX : FX l K X cX1_isRounds RX1 1 22 0 0 := hX
  show GW X 0 [some (.ref u)] [] h n 0 0
  refine g_aload_n hX dX1_isRounds_0 rfl rfl ?_
  refine g_callV (As := []) hX dX1_isRounds_1 cb_X1_bellsAtHome ml_X1_45 im_X1_bellsAtHome se_X1_bellsAtHome rfl rfl (f0) ⟨_, rfl, rfl⟩ (kX1_bellsAtHome hst (f0) (f1) (hp)) (Nat.le_of_ble_eq_true rfl) (Nat.le_of_ble_eq_true rfl) (by omega) (by omega) (Nat.le_of_ble_eq_true rfl) GX.no (pq ?_)
  show GW X 4 [some (.ref u)] [.int (homeI p)] h n 0 0
  refine g_bipush (v := (nI 6)) hX dX1_isRounds_4 (by decide) ?_
  refine g_icmp_ne (tgt := 13) hX dX1_isRounds_6 (by decide) (fun c1 => ?_) (fun c1 => ?_)
  · refine g_iconst (v := (nI 0)) hX dX1_isRounds_13 (by decide) ?_
    refine g_zreturn hX hr (by decide) dX1_isRounds_14 (Nat.le_refl _) (Nat.le_refl _)  ?_
    exact ⟨by simp [c1], rfl, rfl⟩
  · refine g_iconst (v := (nI 1)) hX dX1_isRounds_9 (by decide) ?_
    refine g_goto (tgt := 14) hX dX1_isRounds_10 (by decide) ?_
    refine g_zreturn hX hr (by decide) dX1_isRounds_14 (Nat.le_refl _) (Nat.le_refl _)  ?_
    exact ⟨by simp [c1], rfl, rfl⟩
set_option maxRecDepth 20000 in
theorem kX1_falseRows {l : Launch} {K : gw_K} (hst : l.stackTraces = false) {u n : Nat} {h : gw_H} {p : Nat → Nat} {cm rr : Int32}  (f0 : h u = (oB 1 [.ref (u + 1), .ref (u + 2), .ref (u + 3), .ref (u + 4), .int cm, .int rr])) (f1 : h (u + 1) = (aI 6 (fun b => nI (p b)))) (hp : vplc p) : Ctr l K mX1_falseRows [.ref u] h n 0 0 (PQ (some (.int (frI p cm rr))) h n) (PX0) := by
  refine Ctr.of hst pn_X1_falseRows (Nat.le_of_ble_eq_true rfl) (fun X hX hr hE => ?_)
  have hX : FX l K X cX1_falseRows RX1 2 42 0 0 := hX
  show GW X 0 [some (.ref u)] [] h n 0 0
  refine g_aload_n hX dX1_falseRows_0 rfl rfl ?_
  refine g_callV (As := []) hX dX1_falseRows_1 cb_X1_isRounds ml_X1_49 im_X1_isRounds se_X1_isRounds rfl rfl (f0) ⟨_, rfl, rfl⟩ (kX1_isRounds hst (f0) (f1) (hp)) (Nat.le_of_ble_eq_true rfl) (Nat.le_of_ble_eq_true rfl) (by omega) (by omega) (Nat.le_of_ble_eq_true rfl) GX.no (pq ?_)
  show GW X 4 [some (.ref u)] [.int (if homeI p = nI 6 then nI 1 else nI 0)] h n 0 0
  refine g_ifB_eq (tgt := 23) hX dX1_falseRows_4 (by decide) (fun c1 => ?_) (fun c1 => ?_)
  · refine g_aload_n hX dX1_falseRows_23 rfl rfl ?_
    refine g_getf hX dX1_falseRows_24 fl_X1_35 (f0) rfl ?_
    refine g_ireturn hX hr dX1_falseRows_27 (Nat.le_refl _) (Nat.le_refl _)  ?_
    exact ⟨by simp [frI, c1], rfl, rfl⟩
  · refine g_aload_n hX dX1_falseRows_7 rfl rfl ?_
    refine g_getf hX dX1_falseRows_8 fl_X1_31 (f0) rfl ?_
    refine g_if_le (tgt := 23) hX dX1_falseRows_11 (by decide) (fun c2 => ?_) (fun c2 => ?_)
    · refine g_aload_n hX dX1_falseRows_23 rfl rfl ?_
      refine g_getf hX dX1_falseRows_24 fl_X1_35 (f0) rfl ?_
      refine g_ireturn hX hr dX1_falseRows_27 (Nat.le_refl _) (Nat.le_refl _)  ?_
      exact ⟨by simp [frI, c1, c2, gn_ile.mpr c2], rfl, rfl⟩
    · refine g_aload_n hX dX1_falseRows_14 rfl rfl ?_
      refine g_getf hX dX1_falseRows_15 fl_X1_35 (f0) rfl ?_
      refine g_iconst (v := (nI 1)) hX dX1_falseRows_18 (by decide) ?_
      refine g_isub hX dX1_falseRows_19 ?_
      refine g_goto (tgt := 27) hX dX1_falseRows_20 (by decide) ?_
      refine g_ireturn hX hr dX1_falseRows_27 (Nat.le_refl _) (Nat.le_refl _)  ?_
      exact ⟨by simp [frI, c1, c2, gn_ilt.mp c2], rfl, rfl⟩
set_option maxRecDepth 20000 in
theorem kX1_differentRows {l : Launch} {K : gw_K} (hst : l.stackTraces = false) {u n : Nat} {h : gw_H} {cm rr : Int32}  (f0 : h u = (oB 1 [.ref (u + 1), .ref (u + 2), .ref (u + 3), .ref (u + 4), .int cm, .int rr]))  : Ctr l K mX1_differentRows [.ref u] h n 0 0 (PQ (some (.int (cm + nI 1 - rr))) h n) (PX0) := by
  refine Ctr.of hst pn_X1_differentRows (Nat.le_of_ble_eq_true rfl) (fun X hX hr hE => ?_)
  have hX : FX l K X cX1_differentRows RX1 0 0 0 0 := hX
  show GW X 0 [some (.ref u)] [] h n 0 0
  refine g_aload_n hX dX1_differentRows_0 rfl rfl ?_
  refine g_getf hX dX1_differentRows_1 fl_X1_31 (f0) rfl ?_
  refine g_iconst (v := (nI 1)) hX dX1_differentRows_4 (by decide) ?_
  refine g_iadd hX dX1_differentRows_5 ?_
  refine g_aload_n hX dX1_differentRows_6 rfl rfl ?_
  refine g_getf hX dX1_differentRows_7 fl_X1_35 (f0) rfl ?_
  refine g_isub hX dX1_differentRows_10 ?_
  refine g_ireturn hX hr dX1_differentRows_11 (Nat.le_refl _) (Nat.le_refl _)  ?_
  exact ⟨rfl, rfl, rfl⟩
set_option maxRecDepth 20000 in
theorem kX1_bellAt {l : Launch} {K : gw_K} (hst : l.stackTraces = false) {u n : Nat} {h : gw_H} {p : Nat → Nat} {cm rr : Int32} {x : Nat} (f0 : h u = (oB 1 [.ref (u + 1), .ref (u + 2), .ref (u + 3), .ref (u + 4), .int cm, .int rr])) (f1 : h (u + 1) = (aI 6 (fun b => nI (p b)))) (hp : vplc p) (hx6 : x < 6) : Ctr l K mX1_bellAt [.ref u, .int (nI x)] h n 0 0 (PQ (some (.int (bellAtI p x))) h n) (PX0) := by
  refine Ctr.of hst pn_X1_bellAt (Nat.le_of_ble_eq_true rfl) (fun X hX hr hE => ?_)
  have hX : FX l K X cX1_bellAt RX1 0 0 0 0 := hX
  show GW X 0 [some (.ref u), some (.int (nI x)), none] [] h n 0 0
  refine g_iconst (v := (nI 0)) hX dX1_bellAt_0 (by decide) ?_
  refine g_istore_n (i := 2) hX dX1_bellAt_1 rfl (Nat.le_of_ble_eq_true rfl) rfl ?_
  refine g_loop (P := fun (i : Nat) => GW X 2 [some (.ref u), some (.int (nI x)), some (.int (nI i))] [] h n 0 0) (fun i => bellAtI p x = ffz (fun b => decide (p b = x)) i (6 - i)) 6 rfl ?_ ?_
  · intro i1 hi1 Ii1 ihi1
    have ihi1 : bellAtI p x = ffz (fun b => decide (p b = x)) (i1 + 1) (6 - (i1 + 1)) → GW X 2 [some (.ref u), some (.int (nI x)), some (.int (nI (i1 + 1)))] [] h n 0 0 := ihi1
    refine g_iload_n hX dX1_bellAt_2 rfl rfl ?_
    refine g_bipush (v := (nI 6)) hX dX1_bellAt_3 (by decide) ?_
    refine g_icmp_geN (tgt := 26) hX dX1_bellAt_5 (by decide) (by omega) (fun c2 => absurd c2 (by omega)) (fun c2 => ?_)
    have hpb := hp i1 hi1
    refine g_aload_n hX dX1_bellAt_8 rfl rfl ?_
    refine g_getf hX dX1_bellAt_9 fl_X1_9 (f0) rfl ?_
    refine g_iload_n hX dX1_bellAt_12 rfl rfl ?_
    refine g_iaload hX dX1_bellAt_13 (f1) (i1) (by omega) rfl (by omega) ?_
    refine g_iload_n hX dX1_bellAt_14 rfl rfl ?_
    refine g_icmp_neN (tgt := 20) hX dX1_bellAt_15 (by decide) (by omega) (fun c3 => ?_) (fun c3 => ?_)
    · refine g_iinc (v := (nI (i1 + 1))) hX dX1_bellAt_20 rfl rfl (gn_inc _ _) ?_
      refine g_goto (tgt := 2) hX dX1_bellAt_23 (by decide) ?_
      exact ihi1 (by rw [Ii1, ffz_step hi1, if_neg (by simp [c2, c3])])
    · refine g_iload_n hX dX1_bellAt_18 rfl rfl ?_
      refine g_ireturn hX hr dX1_bellAt_19 (Nat.le_refl _) (Nat.le_refl _)  ?_
      exact ⟨by rw [Ii1, ffz_step hi1, if_pos (by simp [c2, c3])], rfl, rfl⟩
  · intro IN4
    refine g_iload_n hX dX1_bellAt_2 rfl rfl ?_
    refine g_bipush (v := (nI 6)) hX dX1_bellAt_3 (by decide) ?_
    refine g_icmp_ge (tgt := 26) hX dX1_bellAt_5 (by decide) (fun _ => ?_) (fun c => absurd (by decide) c)
    refine g_iconst (v := (nI 0)) hX dX1_bellAt_26 (by decide) ?_
    refine g_ireturn hX hr dX1_bellAt_27 (Nat.le_refl _) (Nat.le_refl _)  ?_
    exact ⟨by rw [IN4, Nat.sub_self]; rfl, rfl, rfl⟩
set_option maxRecDepth 20000 in
theorem kX1_rowCode {l : Launch} {K : gw_K} (hst : l.stackTraces = false) {u n : Nat} {h : gw_H} {p : Nat → Nat} {cm rr : Int32}  (f0 : h u = (oB 1 [.ref (u + 1), .ref (u + 2), .ref (u + 3), .ref (u + 4), .int cm, .int rr])) (f1 : h (u + 1) = (aI 6 (fun b => nI (p b)))) (hp : vplc p) : Ctr l K mX1_rowCode [.ref u] h n 0 0 (PQ (some (.int (rowI p))) h n) (PX0) := by
  refine Ctr.of hst pn_X1_rowCode (Nat.le_of_ble_eq_true rfl) (fun X hX hr hE => ?_)
  have hX : FX l K X cX1_rowCode RX1 1 22 0 0 := hX
  show GW X 0 [some (.ref u), none, none] [] h n 0 0
  refine g_iconst (v := (nI 0)) hX dX1_rowCode_0 (by decide) ?_
  refine g_istore_n (i := 1) hX dX1_rowCode_1 rfl (Nat.le_of_ble_eq_true rfl) rfl ?_
  refine g_iconst (v := (nI 0)) hX dX1_rowCode_2 (by decide) ?_
  refine g_istore_n (i := 2) hX dX1_rowCode_3 rfl (Nat.le_of_ble_eq_true rfl) rfl ?_
  refine g_for (P := fun (i : Nat) (s : Int32) => GW X 4 [some (.ref u), some (.int s), some (.int (nI i))] [] h n 0 0) (step := fun i s => s * nI 6 + bellAtI p i) 6 (nI 0) ?_ ?_
  · intro i1 s2 hi1 es2 ihi1
    have ihi1 : GW X 4 [some (.ref u), some (.int (s2 * nI 6 + bellAtI p i1)), some (.int (nI (i1 + 1)))] [] h n 0 0 := ihi1
    refine g_iload_n hX dX1_rowCode_4 rfl rfl ?_
    refine g_bipush (v := (nI 6)) hX dX1_rowCode_5 (by decide) ?_
    refine g_icmp_geN (tgt := 27) hX dX1_rowCode_7 (by decide) (by omega) (fun c3 => absurd c3 (by omega)) (fun c3 => ?_)
    refine g_iload_n hX dX1_rowCode_10 rfl rfl ?_
    refine g_bipush (v := (nI 6)) hX dX1_rowCode_11 (by decide) ?_
    refine g_imul hX dX1_rowCode_13 ?_
    refine g_aload_n hX dX1_rowCode_14 rfl rfl ?_
    refine g_iload_n hX dX1_rowCode_15 rfl rfl ?_
    refine g_callV (As := [.int (nI i1)]) hX dX1_rowCode_16 cb_X1_bellAt ml_X1_53 im_X1_bellAt se_X1_bellAt rfl rfl (f0) ⟨_, rfl, rfl⟩ (kX1_bellAt hst (f0) (f1) (hp) (by omega)) (Nat.le_of_ble_eq_true rfl) (Nat.le_of_ble_eq_true rfl) (by omega) (by omega) (Nat.le_of_ble_eq_true rfl) GX.no (pq ?_)
    show GW X 19 [some (.ref u), some (.int s2), some (.int (nI i1))] [.int (bellAtI p i1), .int (s2 * (nI 6))] h n 0 0
    refine g_iadd hX dX1_rowCode_19 ?_
    refine g_istore_n (i := 1) hX dX1_rowCode_20 rfl (Nat.le_of_ble_eq_true rfl) rfl ?_
    refine g_iinc (v := (nI (i1 + 1))) hX dX1_rowCode_21 rfl rfl (gn_inc _ _) ?_
    refine g_goto (tgt := 4) hX dX1_rowCode_24 (by decide) ?_
    refine g_cv ihi1 (by simp [c3]) rfl
  · refine g_iload_n hX dX1_rowCode_4 rfl rfl ?_
    refine g_bipush (v := (nI 6)) hX dX1_rowCode_5 (by decide) ?_
    refine g_icmp_ge (tgt := 27) hX dX1_rowCode_7 (by decide) (fun _ => ?_) (fun c => absurd (by decide) c)
    refine g_iload_n hX dX1_rowCode_27 rfl rfl ?_
    refine g_ireturn hX hr dX1_rowCode_28 (Nat.le_refl _) (Nat.le_refl _)  ?_
    exact ⟨rfl, rfl, rfl⟩
