def wsI (k : Nat) : Int32 := nI (k % 6 % 4)
theorem ltA_0f {f : Nat → Int32} {g : Nat → Int32} : f = ltA 0 g f := (ltA_0 g f).symm
set_option maxRecDepth 20000 in
theorem kX2_init {l : Launch} {K : gw_K} (hst : l.stackTraces = false) {n : Nat} {h : gw_H} {t : Nat}  (c0 : h t = (oB 2 [.null, .null, .null, .null, .null, .null, .null, .null, .int 0, .int 0])) (hn : n = t + 1) : Ctr l K mX2_init [.ref t] h n 8 158 (PQ (none) (hs (hs (hs (hs (hs (hs (hs (hs (hs h t (oB 2 [.ref (t + 1), .ref (t + 2), .ref (t + 3), .ref (t + 4), .ref (t + 5), .ref (t + 6), .ref (t + 7), .ref (t + 8), .int 0, .int 0])) (t + 1) (aI 20 (fun _ => 0))) (t + 2) (aI 20 (fun _ => 0))) (t + 3) (aI 20 (fun _ => 0))) (t + 4) (aI 20 (fun _ => 0))) (t + 5) (aI 20 (fun _ => 0))) (t + 6) (aI 20 (fun _ => 0))) (t + 7) (aI 20 (fun _ => 0))) (t + 8) (aI 18 wsI)) (n + 8)) (PX0) := by
  refine Ctr.of hst pn_X2_init (Nat.le_of_ble_eq_true rfl) (fun X hX hr hE => ?_)
  have hX : FX l K X cX2_init RX2 1 20 8 158 := hX
  show GW X 0 [some (.ref t), none] [] h n 0 0
  subst hn
  show GW X 0 [some (.ref t), none] [] h (t + 1) 0 0
  refine g_aload_n hX dX2_init_0 rfl rfl ?_
  refine g_objInit hX dX2_init_1 ml_X2_3 w_oiI w_oiC (Nat.le_of_ble_eq_true rfl) (Nat.le_of_ble_eq_true rfl) ?_
  refine g_aload_n hX dX2_init_4 rfl rfl ?_
  refine g_bipush (v := (nI 20)) hX dX2_init_5 (by decide) ?_
  refine g_newa_aI hX dX2_init_7 w_arrI (20) rfl (by omega) (by omega) (by omega) ?_
  refine g_putF hX hr dX2_init_9 fo_X2_9 (fun _ => ⟨rfl, rfl⟩) ((hs_ne (by omega)).trans (c0)) (Nat.le_of_ble_eq_true rfl) ?_
  show GW X 12 [some (.ref t), none] [] (hs (hs h (t + 1) (aI 20 (fun _ => 0))) t (oB 2 [.ref (t + 1), .null, .null, .null, .null, .null, .null, .null, .int 0, .int 0])) (t + 2) 1 20
  refine g_aload_n hX dX2_init_12 rfl rfl ?_
  refine g_bipush (v := (nI 20)) hX dX2_init_13 (by decide) ?_
  refine g_newa_aI hX dX2_init_15 w_arrI (20) rfl (by omega) (by omega) (by omega) ?_
  refine g_putF hX hr dX2_init_17 fo_X2_15 (fun _ => ⟨rfl, rfl⟩) ((hs_ne (by omega)).trans (hs_eq _ _ _)) (Nat.le_of_ble_eq_true rfl) ?_
  show GW X 20 [some (.ref t), none] [] (hs (hs (hs (hs h (t + 1) (aI 20 (fun _ => 0))) t (oB 2 [.ref (t + 1), .null, .null, .null, .null, .null, .null, .null, .int 0, .int 0])) (t + 2) (aI 20 (fun _ => 0))) t (oB 2 [.ref (t + 1), .ref (t + 2), .null, .null, .null, .null, .null, .null, .int 0, .int 0])) (t + 3) 2 40
  refine g_aload_n hX dX2_init_20 rfl rfl ?_
  refine g_bipush (v := (nI 20)) hX dX2_init_21 (by decide) ?_
  refine g_newa_aI hX dX2_init_23 w_arrI (20) rfl (by omega) (by omega) (by omega) ?_
  refine g_putF hX hr dX2_init_25 fo_X2_18 (fun _ => ⟨rfl, rfl⟩) ((hs_ne (by omega)).trans (hs_eq _ _ _)) (Nat.le_of_ble_eq_true rfl) ?_
  show GW X 28 [some (.ref t), none] [] (hs (hs (hs (hs (hs (hs h (t + 1) (aI 20 (fun _ => 0))) t (oB 2 [.ref (t + 1), .null, .null, .null, .null, .null, .null, .null, .int 0, .int 0])) (t + 2) (aI 20 (fun _ => 0))) t (oB 2 [.ref (t + 1), .ref (t + 2), .null, .null, .null, .null, .null, .null, .int 0, .int 0])) (t + 3) (aI 20 (fun _ => 0))) t (oB 2 [.ref (t + 1), .ref (t + 2), .ref (t + 3), .null, .null, .null, .null, .null, .int 0, .int 0])) (t + 4) 3 60
  refine g_aload_n hX dX2_init_28 rfl rfl ?_
  refine g_bipush (v := (nI 20)) hX dX2_init_29 (by decide) ?_
  refine g_newa_aI hX dX2_init_31 w_arrI (20) rfl (by omega) (by omega) (by omega) ?_
  refine g_putF hX hr dX2_init_33 fo_X2_21 (fun _ => ⟨rfl, rfl⟩) ((hs_ne (by omega)).trans (hs_eq _ _ _)) (Nat.le_of_ble_eq_true rfl) ?_
  show GW X 36 [some (.ref t), none] [] (hs (hs (hs (hs (hs (hs (hs (hs h (t + 1) (aI 20 (fun _ => 0))) t (oB 2 [.ref (t + 1), .null, .null, .null, .null, .null, .null, .null, .int 0, .int 0])) (t + 2) (aI 20 (fun _ => 0))) t (oB 2 [.ref (t + 1), .ref (t + 2), .null, .null, .null, .null, .null, .null, .int 0, .int 0])) (t + 3) (aI 20 (fun _ => 0))) t (oB 2 [.ref (t + 1), .ref (t + 2), .ref (t + 3), .null, .null, .null, .null, .null, .int 0, .int 0])) (t + 4) (aI 20 (fun _ => 0))) t (oB 2 [.ref (t + 1), .ref (t + 2), .ref (t + 3), .ref (t + 4), .null, .null, .null, .null, .int 0, .int 0])) (t + 5) 4 80
  refine g_aload_n hX dX2_init_36 rfl rfl ?_
  refine g_bipush (v := (nI 20)) hX dX2_init_37 (by decide) ?_
  refine g_newa_aI hX dX2_init_39 w_arrI (20) rfl (by omega) (by omega) (by omega) ?_
  refine g_putF hX hr dX2_init_41 fo_X2_24 (fun _ => ⟨rfl, rfl⟩) ((hs_ne (by omega)).trans (hs_eq _ _ _)) (Nat.le_of_ble_eq_true rfl) ?_
  show GW X 44 [some (.ref t), none] [] (hs (hs (hs (hs (hs (hs (hs (hs (hs (hs h (t + 1) (aI 20 (fun _ => 0))) t (oB 2 [.ref (t + 1), .null, .null, .null, .null, .null, .null, .null, .int 0, .int 0])) (t + 2) (aI 20 (fun _ => 0))) t (oB 2 [.ref (t + 1), .ref (t + 2), .null, .null, .null, .null, .null, .null, .int 0, .int 0])) (t + 3) (aI 20 (fun _ => 0))) t (oB 2 [.ref (t + 1), .ref (t + 2), .ref (t + 3), .null, .null, .null, .null, .null, .int 0, .int 0])) (t + 4) (aI 20 (fun _ => 0))) t (oB 2 [.ref (t + 1), .ref (t + 2), .ref (t + 3), .ref (t + 4), .null, .null, .null, .null, .int 0, .int 0])) (t + 5) (aI 20 (fun _ => 0))) t (oB 2 [.ref (t + 1), .ref (t + 2), .ref (t + 3), .ref (t + 4), .ref (t + 5), .null, .null, .null, .int 0, .int 0])) (t + 6) 5 100
  refine g_aload_n hX dX2_init_44 rfl rfl ?_
  refine g_bipush (v := (nI 20)) hX dX2_init_45 (by decide) ?_
  refine g_newa_aI hX dX2_init_47 w_arrI (20) rfl (by omega) (by omega) (by omega) ?_
  refine g_putF hX hr dX2_init_49 fo_X2_27 (fun _ => ⟨rfl, rfl⟩) ((hs_ne (by omega)).trans (hs_eq _ _ _)) (Nat.le_of_ble_eq_true rfl) ?_
  show GW X 52 [some (.ref t), none] [] (hs (hs (hs (hs (hs (hs (hs (hs (hs (hs (hs (hs h (t + 1) (aI 20 (fun _ => 0))) t (oB 2 [.ref (t + 1), .null, .null, .null, .null, .null, .null, .null, .int 0, .int 0])) (t + 2) (aI 20 (fun _ => 0))) t (oB 2 [.ref (t + 1), .ref (t + 2), .null, .null, .null, .null, .null, .null, .int 0, .int 0])) (t + 3) (aI 20 (fun _ => 0))) t (oB 2 [.ref (t + 1), .ref (t + 2), .ref (t + 3), .null, .null, .null, .null, .null, .int 0, .int 0])) (t + 4) (aI 20 (fun _ => 0))) t (oB 2 [.ref (t + 1), .ref (t + 2), .ref (t + 3), .ref (t + 4), .null, .null, .null, .null, .int 0, .int 0])) (t + 5) (aI 20 (fun _ => 0))) t (oB 2 [.ref (t + 1), .ref (t + 2), .ref (t + 3), .ref (t + 4), .ref (t + 5), .null, .null, .null, .int 0, .int 0])) (t + 6) (aI 20 (fun _ => 0))) t (oB 2 [.ref (t + 1), .ref (t + 2), .ref (t + 3), .ref (t + 4), .ref (t + 5), .ref (t + 6), .null, .null, .int 0, .int 0])) (t + 7) 6 120
  refine g_aload_n hX dX2_init_52 rfl rfl ?_
  refine g_bipush (v := (nI 20)) hX dX2_init_53 (by decide) ?_
  refine g_newa_aI hX dX2_init_55 w_arrI (20) rfl (by omega) (by omega) (by omega) ?_
  refine g_putF hX hr dX2_init_57 fo_X2_30 (fun _ => ⟨rfl, rfl⟩) ((hs_ne (by omega)).trans (hs_eq _ _ _)) (Nat.le_of_ble_eq_true rfl) ?_
  show GW X 60 [some (.ref t), none] [] (hs (hs (hs (hs (hs (hs (hs (hs (hs (hs (hs (hs (hs (hs h (t + 1) (aI 20 (fun _ => 0))) t (oB 2 [.ref (t + 1), .null, .null, .null, .null, .null, .null, .null, .int 0, .int 0])) (t + 2) (aI 20 (fun _ => 0))) t (oB 2 [.ref (t + 1), .ref (t + 2), .null, .null, .null, .null, .null, .null, .int 0, .int 0])) (t + 3) (aI 20 (fun _ => 0))) t (oB 2 [.ref (t + 1), .ref (t + 2), .ref (t + 3), .null, .null, .null, .null, .null, .int 0, .int 0])) (t + 4) (aI 20 (fun _ => 0))) t (oB 2 [.ref (t + 1), .ref (t + 2), .ref (t + 3), .ref (t + 4), .null, .null, .null, .null, .int 0, .int 0])) (t + 5) (aI 20 (fun _ => 0))) t (oB 2 [.ref (t + 1), .ref (t + 2), .ref (t + 3), .ref (t + 4), .ref (t + 5), .null, .null, .null, .int 0, .int 0])) (t + 6) (aI 20 (fun _ => 0))) t (oB 2 [.ref (t + 1), .ref (t + 2), .ref (t + 3), .ref (t + 4), .ref (t + 5), .ref (t + 6), .null, .null, .int 0, .int 0])) (t + 7) (aI 20 (fun _ => 0))) t (oB 2 [.ref (t + 1), .ref (t + 2), .ref (t + 3), .ref (t + 4), .ref (t + 5), .ref (t + 6), .ref (t + 7), .null, .int 0, .int 0])) (t + 8) 7 140
  refine g_aload_n hX dX2_init_60 rfl rfl ?_
  refine g_bipush (v := (nI 18)) hX dX2_init_61 (by decide) ?_
  refine g_newa_aI hX dX2_init_63 w_arrI (18) rfl (by omega) (by omega) (by omega) ?_
  refine g_putF hX hr dX2_init_65 fo_X2_33 (fun _ => ⟨rfl, rfl⟩) ((hs_ne (by omega)).trans (hs_eq _ _ _)) (Nat.le_of_ble_eq_true rfl) ?_
  show GW X 68 [some (.ref t), none] [] (hs (hs (hs (hs (hs (hs (hs (hs (hs (hs (hs (hs (hs (hs (hs (hs h (t + 1) (aI 20 (fun _ => 0))) t (oB 2 [.ref (t + 1), .null, .null, .null, .null, .null, .null, .null, .int 0, .int 0])) (t + 2) (aI 20 (fun _ => 0))) t (oB 2 [.ref (t + 1), .ref (t + 2), .null, .null, .null, .null, .null, .null, .int 0, .int 0])) (t + 3) (aI 20 (fun _ => 0))) t (oB 2 [.ref (t + 1), .ref (t + 2), .ref (t + 3), .null, .null, .null, .null, .null, .int 0, .int 0])) (t + 4) (aI 20 (fun _ => 0))) t (oB 2 [.ref (t + 1), .ref (t + 2), .ref (t + 3), .ref (t + 4), .null, .null, .null, .null, .int 0, .int 0])) (t + 5) (aI 20 (fun _ => 0))) t (oB 2 [.ref (t + 1), .ref (t + 2), .ref (t + 3), .ref (t + 4), .ref (t + 5), .null, .null, .null, .int 0, .int 0])) (t + 6) (aI 20 (fun _ => 0))) t (oB 2 [.ref (t + 1), .ref (t + 2), .ref (t + 3), .ref (t + 4), .ref (t + 5), .ref (t + 6), .null, .null, .int 0, .int 0])) (t + 7) (aI 20 (fun _ => 0))) t (oB 2 [.ref (t + 1), .ref (t + 2), .ref (t + 3), .ref (t + 4), .ref (t + 5), .ref (t + 6), .ref (t + 7), .null, .int 0, .int 0])) (t + 8) (aI 18 (fun _ => 0))) t (oB 2 [.ref (t + 1), .ref (t + 2), .ref (t + 3), .ref (t + 4), .ref (t + 5), .ref (t + 6), .ref (t + 7), .ref (t + 8), .int 0, .int 0])) (t + 9) 8 158
  refine g_iconst (v := (nI 0)) hX dX2_init_68 (by decide) ?_
  refine g_istore_n (i := 1) hX dX2_init_69 rfl (Nat.le_of_ble_eq_true rfl) rfl ?_
  refine g_cg (h' := (hs (hs (hs (hs (hs (hs (hs (hs (hs h t (oB 2 [.ref (t + 1), .ref (t + 2), .ref (t + 3), .ref (t + 4), .ref (t + 5), .ref (t + 6), .ref (t + 7), .ref (t + 8), .int 0, .int 0])) (t + 1) (aI 20 (fun _ => 0))) (t + 2) (aI 20 (fun _ => 0))) (t + 3) (aI 20 (fun _ => 0))) (t + 4) (aI 20 (fun _ => 0))) (t + 5) (aI 20 (fun _ => 0))) (t + 6) (aI 20 (fun _ => 0))) (t + 7) (aI 20 (fun _ => 0))) (t + 8) (aI 18 (fun _ => 0)))) rfl (by rw [hs_cm (k := t) (j := t + 1) _ _ _ (by omega), hs_cm (k := t) (j := t + 2) _ _ _ (by omega), hs_cm (k := t) (j := t + 1) _ _ _ (by omega), hs_hs (k := t), hs_cm (k := t) (j := t + 3) _ _ _ (by omega), hs_cm (k := t) (j := t + 2) _ _ _ (by omega), hs_cm (k := t) (j := t + 1) _ _ _ (by omega), hs_hs (k := t), hs_cm (k := t) (j := t + 4) _ _ _ (by omega), hs_cm (k := t) (j := t + 3) _ _ _ (by omega), hs_cm (k := t) (j := t + 2) _ _ _ (by omega), hs_cm (k := t) (j := t + 1) _ _ _ (by omega), hs_hs (k := t), hs_cm (k := t) (j := t + 5) _ _ _ (by omega), hs_cm (k := t) (j := t + 4) _ _ _ (by omega), hs_cm (k := t) (j := t + 3) _ _ _ (by omega), hs_cm (k := t) (j := t + 2) _ _ _ (by omega), hs_cm (k := t) (j := t + 1) _ _ _ (by omega), hs_hs (k := t), hs_cm (k := t) (j := t + 6) _ _ _ (by omega), hs_cm (k := t) (j := t + 5) _ _ _ (by omega), hs_cm (k := t) (j := t + 4) _ _ _ (by omega), hs_cm (k := t) (j := t + 3) _ _ _ (by omega), hs_cm (k := t) (j := t + 2) _ _ _ (by omega), hs_cm (k := t) (j := t + 1) _ _ _ (by omega), hs_hs (k := t), hs_cm (k := t) (j := t + 7) _ _ _ (by omega), hs_cm (k := t) (j := t + 6) _ _ _ (by omega), hs_cm (k := t) (j := t + 5) _ _ _ (by omega), hs_cm (k := t) (j := t + 4) _ _ _ (by omega), hs_cm (k := t) (j := t + 3) _ _ _ (by omega), hs_cm (k := t) (j := t + 2) _ _ _ (by omega), hs_cm (k := t) (j := t + 1) _ _ _ (by omega), hs_hs (k := t), hs_cm (k := t) (j := t + 8) _ _ _ (by omega), hs_cm (k := t) (j := t + 7) _ _ _ (by omega), hs_cm (k := t) (j := t + 6) _ _ _ (by omega), hs_cm (k := t) (j := t + 5) _ _ _ (by omega), hs_cm (k := t) (j := t + 4) _ _ _ (by omega), hs_cm (k := t) (j := t + 3) _ _ _ (by omega), hs_cm (k := t) (j := t + 2) _ _ _ (by omega), hs_cm (k := t) (j := t + 1) _ _ _ (by omega), hs_hs (k := t)]) ?_
  refine g_cg (L' := [some (.ref t), some (.int (nI 0))]) (h' := (hs (hs (hs (hs (hs (hs (hs (hs (hs h t (oB 2 [.ref (t + 1), .ref (t + 2), .ref (t + 3), .ref (t + 4), .ref (t + 5), .ref (t + 6), .ref (t + 7), .ref (t + 8), .int 0, .int 0])) (t + 1) (aI 20 (fun _ => 0))) (t + 2) (aI 20 (fun _ => 0))) (t + 3) (aI 20 (fun _ => 0))) (t + 4) (aI 20 (fun _ => 0))) (t + 5) (aI 20 (fun _ => 0))) (t + 6) (aI 20 (fun _ => 0))) (t + 7) (aI 20 (fun _ => 0))) (t + 8) (aI 18 (ltA 0 wsI (fun _ => 0))))) (by rfl) (by rw [ltA_0]) ?_
  refine g_loop (P := fun (i : Nat) => GW X 70 [some (.ref t), some (.int (nI i))] [] (hs (hs (hs (hs (hs (hs (hs (hs (hs h t (oB 2 [.ref (t + 1), .ref (t + 2), .ref (t + 3), .ref (t + 4), .ref (t + 5), .ref (t + 6), .ref (t + 7), .ref (t + 8), .int 0, .int 0])) (t + 1) (aI 20 (fun _ => 0))) (t + 2) (aI 20 (fun _ => 0))) (t + 3) (aI 20 (fun _ => 0))) (t + 4) (aI 20 (fun _ => 0))) (t + 5) (aI 20 (fun _ => 0))) (t + 6) (aI 20 (fun _ => 0))) (t + 7) (aI 20 (fun _ => 0))) (t + 8) (aI 18 (ltA i wsI (fun _ => 0)))) (t + 9) 8 158) (fun i => True) 18 trivial ?_ ?_
  · intro i1 hi1 Ii1 ihi1
    have ihi1 : True → GW X 70 [some (.ref t), some (.int (nI (i1 + 1)))] [] (hs (hs (hs (hs (hs (hs (hs (hs (hs h t (oB 2 [.ref (t + 1), .ref (t + 2), .ref (t + 3), .ref (t + 4), .ref (t + 5), .ref (t + 6), .ref (t + 7), .ref (t + 8), .int 0, .int 0])) (t + 1) (aI 20 (fun _ => 0))) (t + 2) (aI 20 (fun _ => 0))) (t + 3) (aI 20 (fun _ => 0))) (t + 4) (aI 20 (fun _ => 0))) (t + 5) (aI 20 (fun _ => 0))) (t + 6) (aI 20 (fun _ => 0))) (t + 7) (aI 20 (fun _ => 0))) (t + 8) (aI 18 (ltA (i1 + 1) wsI (fun _ => 0)))) (t + 9) 8 158 := ihi1
    refine g_iload_n hX dX2_init_70 rfl rfl ?_
    refine g_bipush (v := (nI 18)) hX dX2_init_71 (by decide) ?_
    refine g_icmp_geN (tgt := 94) hX dX2_init_73 (by decide) (by omega) (fun c2 => absurd c2 (by omega)) (fun c2 => ?_)
    refine g_aload_n hX dX2_init_76 rfl rfl ?_
    refine g_getf hX dX2_init_77 fl_X2_33 ((hs_ne (by omega)).trans ((hs_ne (by omega)).trans ((hs_ne (by omega)).trans ((hs_ne (by omega)).trans ((hs_ne (by omega)).trans ((hs_ne (by omega)).trans ((hs_ne (by omega)).trans ((hs_ne (by omega)).trans (hs_eq _ _ _))))))))) rfl ?_
    refine g_iload_n hX dX2_init_80 rfl rfl ?_
    refine g_iload_n hX dX2_init_81 rfl rfl ?_
    refine g_bipush (v := (nI 6)) hX dX2_init_82 (by decide) ?_
    refine g_iremN hX dX2_init_84 (by omega) (by omega) (by omega) ?_
    refine g_iconst (v := (nI 4)) hX dX2_init_85 (by decide) ?_
    refine g_iremN hX dX2_init_86 (by omega) (by omega) (by omega) ?_
    refine g_iastore hX dX2_init_87 (hs_eq _ _ _) (i1) (by omega) rfl (by omega) ?_
    refine g_cg rfl hs_hs ?_
    refine g_iinc (v := (nI (i1 + 1))) hX dX2_init_88 rfl rfl (gn_inc _ _) ?_
    refine g_goto (tgt := 70) hX dX2_init_91 (by decide) ?_
    refine g_heq (h' := (hs (hs (hs (hs (hs (hs (hs (hs (hs h t (oB 2 [.ref (t + 1), .ref (t + 2), .ref (t + 3), .ref (t + 4), .ref (t + 5), .ref (t + 6), .ref (t + 7), .ref (t + 8), .int 0, .int 0])) (t + 1) (aI 20 (fun _ => 0))) (t + 2) (aI 20 (fun _ => 0))) (t + 3) (aI 20 (fun _ => 0))) (t + 4) (aI 20 (fun _ => 0))) (t + 5) (aI 20 (fun _ => 0))) (t + 6) (aI 20 (fun _ => 0))) (t + 7) (aI 20 (fun _ => 0))) (t + 8) (aI 18 (ltA (i1 + 1) wsI (fun _ => 0))))) (ceq_hs (ceq_hs (ceq_hs (ceq_hs (ceq_hs (ceq_hs (ceq_hs (ceq_hs (ceq_hs (fun _ => ceq_r) ceq_r) ceq_r) ceq_r) ceq_r) ceq_r) ceq_r) ceq_r) ceq_r) (ceq_I fun k hk => congrFun (ltA_up i1 wsI (fun _ => 0) rfl) k)) ?_
    show GW X 70 [some (.ref t), some (.int (nI (i1 + 1)))] [] (hs (hs (hs (hs (hs (hs (hs (hs (hs h t (oB 2 [.ref (t + 1), .ref (t + 2), .ref (t + 3), .ref (t + 4), .ref (t + 5), .ref (t + 6), .ref (t + 7), .ref (t + 8), .int 0, .int 0])) (t + 1) (aI 20 (fun _ => 0))) (t + 2) (aI 20 (fun _ => 0))) (t + 3) (aI 20 (fun _ => 0))) (t + 4) (aI 20 (fun _ => 0))) (t + 5) (aI 20 (fun _ => 0))) (t + 6) (aI 20 (fun _ => 0))) (t + 7) (aI 20 (fun _ => 0))) (t + 8) (aI 18 (ltA (i1 + 1) wsI (fun _ => 0)))) (t + 9) 8 158
    refine g_cv (ihi1 (trivial)) rfl rfl
  · intro IN3
    refine g_iload_n hX dX2_init_70 rfl rfl ?_
    refine g_bipush (v := (nI 18)) hX dX2_init_71 (by decide) ?_
    refine g_icmp_ge (tgt := 94) hX dX2_init_73 (by decide) (fun _ => ?_) (fun c => absurd (by decide) c)
    refine g_heq (h' := (hs (hs (hs (hs (hs (hs (hs (hs (hs h t (oB 2 [.ref (t + 1), .ref (t + 2), .ref (t + 3), .ref (t + 4), .ref (t + 5), .ref (t + 6), .ref (t + 7), .ref (t + 8), .int 0, .int 0])) (t + 1) (aI 20 (fun _ => 0))) (t + 2) (aI 20 (fun _ => 0))) (t + 3) (aI 20 (fun _ => 0))) (t + 4) (aI 20 (fun _ => 0))) (t + 5) (aI 20 (fun _ => 0))) (t + 6) (aI 20 (fun _ => 0))) (t + 7) (aI 20 (fun _ => 0))) (t + 8) (aI 18 wsI))) (ceq_hs (ceq_hs (ceq_hs (ceq_hs (ceq_hs (ceq_hs (ceq_hs (ceq_hs (ceq_hs (fun _ => ceq_r) ceq_r) ceq_r) ceq_r) ceq_r) ceq_r) ceq_r) ceq_r) ceq_r) (ceq_I fun k hk => ltA_N hk)) ?_
    show GW X 94 [some (.ref t), some (.int (nI 18))] [] (hs (hs (hs (hs (hs (hs (hs (hs (hs h t (oB 2 [.ref (t + 1), .ref (t + 2), .ref (t + 3), .ref (t + 4), .ref (t + 5), .ref (t + 6), .ref (t + 7), .ref (t + 8), .int 0, .int 0])) (t + 1) (aI 20 (fun _ => 0))) (t + 2) (aI 20 (fun _ => 0))) (t + 3) (aI 20 (fun _ => 0))) (t + 4) (aI 20 (fun _ => 0))) (t + 5) (aI 20 (fun _ => 0))) (t + 6) (aI 20 (fun _ => 0))) (t + 7) (aI 20 (fun _ => 0))) (t + 8) (aI 18 wsI)) (t + 9) 8 158
    refine g_return hX hr dX2_init_94 (by omega) (by omega)  ?_
    exact ⟨rfl, rfl, by omega⟩
set_option maxRecDepth 20000 in
theorem kX1_init {l : Launch} {K : gw_K} (hst : l.stackTraces = false) {n : Nat} {h : gw_H} {t : Nat}  (c0 : h t = (oB 1 [.null, .null, .null, .null, .int 0, .int 0])) (hn : n = t + 1) : Ctr l K mX1_init [.ref t] h n 4 140 (PQ (none) (hs (hs (hs (hs (hs h t (oB 1 [.ref (t + 1), .ref (t + 2), .ref (t + 3), .ref (t + 4), .int 0, .int 0])) (t + 1) (aI 6 (fun _ => 0))) (t + 2) (aI 6 (fun _ => 0))) (t + 3) (aI 6 (fun _ => 0))) (t + 4) (aJ 122 (fun _ => 0))) (n + 4)) (PX0) := by
  refine Ctr.of hst pn_X1_init (Nat.le_of_ble_eq_true rfl) (fun X hX hr hE => ?_)
  have hX : FX l K X cX1_init RX1 1 20 4 140 := hX
  show GW X 0 [some (.ref t)] [] h n 0 0
  subst hn
  show GW X 0 [some (.ref t)] [] h (t + 1) 0 0
  refine g_aload_n hX dX1_init_0 rfl rfl ?_
  refine g_objInit hX dX1_init_1 ml_X1_3 w_oiI w_oiC (Nat.le_of_ble_eq_true rfl) (Nat.le_of_ble_eq_true rfl) ?_
  refine g_aload_n hX dX1_init_4 rfl rfl ?_
  refine g_bipush (v := (nI 6)) hX dX1_init_5 (by decide) ?_
  refine g_newa_aI hX dX1_init_7 w_arrI (6) rfl (by omega) (by omega) (by omega) ?_
  refine g_putF hX hr dX1_init_9 fo_X1_9 (fun _ => ⟨rfl, rfl⟩) ((hs_ne (by omega)).trans (c0)) (Nat.le_of_ble_eq_true rfl) ?_
  show GW X 12 [some (.ref t)] [] (hs (hs h (t + 1) (aI 6 (fun _ => 0))) t (oB 1 [.ref (t + 1), .null, .null, .null, .int 0, .int 0])) (t + 2) 1 6
  refine g_aload_n hX dX1_init_12 rfl rfl ?_
  refine g_bipush (v := (nI 6)) hX dX1_init_13 (by decide) ?_
  refine g_newa_aI hX dX1_init_15 w_arrI (6) rfl (by omega) (by omega) (by omega) ?_
  refine g_putF hX hr dX1_init_17 fo_X1_15 (fun _ => ⟨rfl, rfl⟩) ((hs_ne (by omega)).trans (hs_eq _ _ _)) (Nat.le_of_ble_eq_true rfl) ?_
  show GW X 20 [some (.ref t)] [] (hs (hs (hs (hs h (t + 1) (aI 6 (fun _ => 0))) t (oB 1 [.ref (t + 1), .null, .null, .null, .int 0, .int 0])) (t + 2) (aI 6 (fun _ => 0))) t (oB 1 [.ref (t + 1), .ref (t + 2), .null, .null, .int 0, .int 0])) (t + 3) 2 12
  refine g_aload_n hX dX1_init_20 rfl rfl ?_
  refine g_bipush (v := (nI 6)) hX dX1_init_21 (by decide) ?_
  refine g_newa_aI hX dX1_init_23 w_arrI (6) rfl (by omega) (by omega) (by omega) ?_
  refine g_putF hX hr dX1_init_25 fo_X1_18 (fun _ => ⟨rfl, rfl⟩) ((hs_ne (by omega)).trans (hs_eq _ _ _)) (Nat.le_of_ble_eq_true rfl) ?_
  show GW X 28 [some (.ref t)] [] (hs (hs (hs (hs (hs (hs h (t + 1) (aI 6 (fun _ => 0))) t (oB 1 [.ref (t + 1), .null, .null, .null, .int 0, .int 0])) (t + 2) (aI 6 (fun _ => 0))) t (oB 1 [.ref (t + 1), .ref (t + 2), .null, .null, .int 0, .int 0])) (t + 3) (aI 6 (fun _ => 0))) t (oB 1 [.ref (t + 1), .ref (t + 2), .ref (t + 3), .null, .int 0, .int 0])) (t + 4) 3 18
  refine g_aload_n hX dX1_init_28 rfl rfl ?_
  refine g_bipush (v := (nI 122)) hX dX1_init_29 (by decide) ?_
  refine g_newa_aJ hX dX1_init_31 w_arrJ (122) rfl (by omega) (by omega) (by omega) ?_
  refine g_putF hX hr dX1_init_33 fo_X1_21 (fun _ => ⟨rfl, rfl⟩) ((hs_ne (by omega)).trans (hs_eq _ _ _)) (Nat.le_of_ble_eq_true rfl) ?_
  show GW X 36 [some (.ref t)] [] (hs (hs (hs (hs (hs (hs (hs (hs h (t + 1) (aI 6 (fun _ => 0))) t (oB 1 [.ref (t + 1), .null, .null, .null, .int 0, .int 0])) (t + 2) (aI 6 (fun _ => 0))) t (oB 1 [.ref (t + 1), .ref (t + 2), .null, .null, .int 0, .int 0])) (t + 3) (aI 6 (fun _ => 0))) t (oB 1 [.ref (t + 1), .ref (t + 2), .ref (t + 3), .null, .int 0, .int 0])) (t + 4) (aJ 122 (fun _ => 0))) t (oB 1 [.ref (t + 1), .ref (t + 2), .ref (t + 3), .ref (t + 4), .int 0, .int 0])) (t + 5) 4 140
  refine g_return hX hr dX1_init_36 (by omega) (by omega)  ?_
  exact ⟨rfl, (by first | (rw [hs_cm (k := t) (j := t + 1) _ _ _ (by omega), hs_cm (k := t) (j := t + 2) _ _ _ (by omega), hs_cm (k := t) (j := t + 1) _ _ _ (by omega), hs_hs (k := t), hs_cm (k := t) (j := t + 3) _ _ _ (by omega), hs_cm (k := t) (j := t + 2) _ _ _ (by omega), hs_cm (k := t) (j := t + 1) _ _ _ (by omega), hs_hs (k := t), hs_cm (k := t) (j := t + 4) _ _ _ (by omega), hs_cm (k := t) (j := t + 3) _ _ _ (by omega), hs_cm (k := t) (j := t + 2) _ _ _ (by omega), hs_cm (k := t) (j := t + 1) _ _ _ (by omega), hs_hs (k := t)]; done) | (rw [hs_cm (k := t) (j := t + 1) _ _ _ (by omega), hs_cm (k := t) (j := t + 2) _ _ _ (by omega), hs_cm (k := t) (j := t + 1) _ _ _ (by omega), hs_hs (k := t), hs_cm (k := t) (j := t + 3) _ _ _ (by omega), hs_cm (k := t) (j := t + 2) _ _ _ (by omega), hs_cm (k := t) (j := t + 1) _ _ _ (by omega), hs_hs (k := t), hs_cm (k := t) (j := t + 4) _ _ _ (by omega), hs_cm (k := t) (j := t + 3) _ _ _ (by omega), hs_cm (k := t) (j := t + 2) _ _ _ (by omega), hs_cm (k := t) (j := t + 1) _ _ _ (by omega), hs_hs (k := t)]; rfl)), by omega⟩
set_option maxRecDepth 20000 in
theorem kX0_init {l : Launch} {K : gw_K} (hst : l.stackTraces = false) {n : Nat} {h : gw_H} {t : Nat}  (c0 : h t = (oB 0 [.null, .null, .int 0, .int 0, .int 0, .int 0, .int 0])) (hn : n = t + 1) : Ctr l K mX0_init [.ref t] h n 2 18 (PQ (none) (hs (hs (hs h t (oB 0 [.ref (t + 1), .ref (t + 2), .int 0, .int (nI 1), .int (nI 1), .int 0, .int (nI 6)])) (t + 1) (aI 12 (fun _ => 0))) (t + 2) (aI 6 (fun _ => 0))) (n + 2)) (PX0) := by
  refine Ctr.of hst pn_X0_init (Nat.le_of_ble_eq_true rfl) (fun X hX hr hE => ?_)
  have hX : FX l K X cX0_init RX0 1 20 2 18 := hX
  show GW X 0 [some (.ref t)] [] h n 0 0
  subst hn
  show GW X 0 [some (.ref t)] [] h (t + 1) 0 0
  refine g_aload_n hX dX0_init_0 rfl rfl ?_
  refine g_objInit hX dX0_init_1 ml_X0_3 w_oiI w_oiC (Nat.le_of_ble_eq_true rfl) (Nat.le_of_ble_eq_true rfl) ?_
  refine g_aload_n hX dX0_init_4 rfl rfl ?_
  refine g_bipush (v := (nI 12)) hX dX0_init_5 (by decide) ?_
  refine g_newa_aI hX dX0_init_7 w_arrI (12) rfl (by omega) (by omega) (by omega) ?_
  refine g_putF hX hr dX0_init_9 fo_X0_9 (fun _ => ⟨rfl, rfl⟩) ((hs_ne (by omega)).trans (c0)) (Nat.le_of_ble_eq_true rfl) ?_
  show GW X 12 [some (.ref t)] [] (hs (hs h (t + 1) (aI 12 (fun _ => 0))) t (oB 0 [.ref (t + 1), .null, .int 0, .int 0, .int 0, .int 0, .int 0])) (t + 2) 1 12
  refine g_aload_n hX dX0_init_12 rfl rfl ?_
  refine g_bipush (v := (nI 6)) hX dX0_init_13 (by decide) ?_
  refine g_newa_aI hX dX0_init_15 w_arrI (6) rfl (by omega) (by omega) (by omega) ?_
  refine g_putF hX hr dX0_init_17 fo_X0_15 (fun _ => ⟨rfl, rfl⟩) ((hs_ne (by omega)).trans (hs_eq _ _ _)) (Nat.le_of_ble_eq_true rfl) ?_
  show GW X 20 [some (.ref t)] [] (hs (hs (hs (hs h (t + 1) (aI 12 (fun _ => 0))) t (oB 0 [.ref (t + 1), .null, .int 0, .int 0, .int 0, .int 0, .int 0])) (t + 2) (aI 6 (fun _ => 0))) t (oB 0 [.ref (t + 1), .ref (t + 2), .int 0, .int 0, .int 0, .int 0, .int 0])) (t + 3) 2 18
  refine g_aload_n hX dX0_init_20 rfl rfl ?_
  refine g_iconst (v := (nI 1)) hX dX0_init_21 (by decide) ?_
  refine g_putI hX dX0_init_22 fl_X0_18 (hs_eq _ _ _) (Nat.le_of_ble_eq_true rfl) ?_
  refine g_cg rfl hs_hs ?_
  show GW X 25 [some (.ref t)] [] (hs (hs (hs (hs h (t + 1) (aI 12 (fun _ => 0))) t (oB 0 [.ref (t + 1), .null, .int 0, .int 0, .int 0, .int 0, .int 0])) (t + 2) (aI 6 (fun _ => 0))) t (oB 0 [.ref (t + 1), .ref (t + 2), .int 0, .int (nI 1), .int 0, .int 0, .int 0])) (t + 3) 2 18
  refine g_aload_n hX dX0_init_25 rfl rfl ?_
  refine g_iconst (v := (nI 1)) hX dX0_init_26 (by decide) ?_
  refine g_putI hX dX0_init_27 fl_X0_22 (hs_eq _ _ _) (Nat.le_of_ble_eq_true rfl) ?_
  refine g_cg rfl hs_hs ?_
  show GW X 30 [some (.ref t)] [] (hs (hs (hs (hs h (t + 1) (aI 12 (fun _ => 0))) t (oB 0 [.ref (t + 1), .null, .int 0, .int 0, .int 0, .int 0, .int 0])) (t + 2) (aI 6 (fun _ => 0))) t (oB 0 [.ref (t + 1), .ref (t + 2), .int 0, .int (nI 1), .int (nI 1), .int 0, .int 0])) (t + 3) 2 18
  refine g_aload_n hX dX0_init_30 rfl rfl ?_
  refine g_bipush (v := (nI 6)) hX dX0_init_31 (by decide) ?_
  refine g_putI hX dX0_init_33 fl_X0_25 (hs_eq _ _ _) (Nat.le_of_ble_eq_true rfl) ?_
  refine g_cg rfl hs_hs ?_
  show GW X 36 [some (.ref t)] [] (hs (hs (hs (hs h (t + 1) (aI 12 (fun _ => 0))) t (oB 0 [.ref (t + 1), .null, .int 0, .int 0, .int 0, .int 0, .int 0])) (t + 2) (aI 6 (fun _ => 0))) t (oB 0 [.ref (t + 1), .ref (t + 2), .int 0, .int (nI 1), .int (nI 1), .int 0, .int (nI 6)])) (t + 3) 2 18
  refine g_return hX hr dX0_init_36 (by omega) (by omega)  ?_
  exact ⟨rfl, (by first | (rw [hs_cm (k := t) (j := t + 1) _ _ _ (by omega), hs_cm (k := t) (j := t + 2) _ _ _ (by omega), hs_cm (k := t) (j := t + 1) _ _ _ (by omega), hs_hs (k := t)]; done) | (rw [hs_cm (k := t) (j := t + 1) _ _ _ (by omega), hs_cm (k := t) (j := t + 2) _ _ _ (by omega), hs_cm (k := t) (j := t + 1) _ _ _ (by omega), hs_hs (k := t)]; rfl)), by omega⟩
set_option maxRecDepth 20000 in
theorem kX4_init {l : Launch} {K : gw_K} (hst : l.stackTraces = false) {n : Nat} {h : gw_H} {t : Nat} {m : Nat} (c0 : h t = (oB 4 [.int 0, .null, .null, .null, .null, .null])) (hn : n = t + 1) : Ctr l K mX4_init [.ref t, .ref m] h n 4 80 (PQ (none) (hs (hs (hs (hs (hs h t (oB 4 [.int 0, .ref (t + 1), .ref (t + 2), .ref (t + 3), .ref (t + 4), .ref m])) (t + 1) (aI 20 (fun _ => 0))) (t + 2) (aI 20 (fun _ => 0))) (t + 3) (aI 20 (fun _ => 0))) (t + 4) (aI 20 (fun _ => 0))) (n + 4)) (PX0) := by
  refine Ctr.of hst pn_X4_init (Nat.le_of_ble_eq_true rfl) (fun X hX hr hE => ?_)
  have hX : FX l K X cX4_init RX4 1 20 4 80 := hX
  show GW X 0 [some (.ref t), some (.ref m)] [] h n 0 0
  subst hn
  show GW X 0 [some (.ref t), some (.ref m)] [] h (t + 1) 0 0
  refine g_aload_n hX dX4_init_0 rfl rfl ?_
  refine g_aload_n hX dX4_init_1 rfl rfl ?_
  refine g_putF hX hr dX4_init_2 fo_X4_3 (fun _ => ⟨rfl, rfl⟩) (c0) (Nat.le_of_ble_eq_true rfl) ?_
  show GW X 5 [some (.ref t), some (.ref m)] [] (hs h t (oB 4 [.int 0, .null, .null, .null, .null, .ref m])) (t + 1) 0 0
  refine g_aload_n hX dX4_init_5 rfl rfl ?_
  refine g_objInit hX dX4_init_6 ml_X4_9 w_oiI w_oiC (Nat.le_of_ble_eq_true rfl) (Nat.le_of_ble_eq_true rfl) ?_
  refine g_aload_n hX dX4_init_9 rfl rfl ?_
  refine g_bipush (v := (nI 20)) hX dX4_init_10 (by decide) ?_
  refine g_newa_aI hX dX4_init_12 w_arrI (20) rfl (by omega) (by omega) (by omega) ?_
  refine g_putF hX hr dX4_init_14 fo_X4_15 (fun _ => ⟨rfl, rfl⟩) ((hs_ne (by omega)).trans (hs_eq _ _ _)) (Nat.le_of_ble_eq_true rfl) ?_
  show GW X 17 [some (.ref t), some (.ref m)] [] (hs (hs (hs h t (oB 4 [.int 0, .null, .null, .null, .null, .ref m])) (t + 1) (aI 20 (fun _ => 0))) t (oB 4 [.int 0, .ref (t + 1), .null, .null, .null, .ref m])) (t + 2) 1 20
  refine g_aload_n hX dX4_init_17 rfl rfl ?_
  refine g_bipush (v := (nI 20)) hX dX4_init_18 (by decide) ?_
  refine g_newa_aI hX dX4_init_20 w_arrI (20) rfl (by omega) (by omega) (by omega) ?_
  refine g_putF hX hr dX4_init_22 fo_X4_19 (fun _ => ⟨rfl, rfl⟩) ((hs_ne (by omega)).trans (hs_eq _ _ _)) (Nat.le_of_ble_eq_true rfl) ?_
  show GW X 25 [some (.ref t), some (.ref m)] [] (hs (hs (hs (hs (hs h t (oB 4 [.int 0, .null, .null, .null, .null, .ref m])) (t + 1) (aI 20 (fun _ => 0))) t (oB 4 [.int 0, .ref (t + 1), .null, .null, .null, .ref m])) (t + 2) (aI 20 (fun _ => 0))) t (oB 4 [.int 0, .ref (t + 1), .ref (t + 2), .null, .null, .ref m])) (t + 3) 2 40
  refine g_aload_n hX dX4_init_25 rfl rfl ?_
  refine g_bipush (v := (nI 20)) hX dX4_init_26 (by decide) ?_
  refine g_newa_aI hX dX4_init_28 w_arrI (20) rfl (by omega) (by omega) (by omega) ?_
  refine g_putF hX hr dX4_init_30 fo_X4_22 (fun _ => ⟨rfl, rfl⟩) ((hs_ne (by omega)).trans (hs_eq _ _ _)) (Nat.le_of_ble_eq_true rfl) ?_
  show GW X 33 [some (.ref t), some (.ref m)] [] (hs (hs (hs (hs (hs (hs (hs h t (oB 4 [.int 0, .null, .null, .null, .null, .ref m])) (t + 1) (aI 20 (fun _ => 0))) t (oB 4 [.int 0, .ref (t + 1), .null, .null, .null, .ref m])) (t + 2) (aI 20 (fun _ => 0))) t (oB 4 [.int 0, .ref (t + 1), .ref (t + 2), .null, .null, .ref m])) (t + 3) (aI 20 (fun _ => 0))) t (oB 4 [.int 0, .ref (t + 1), .ref (t + 2), .ref (t + 3), .null, .ref m])) (t + 4) 3 60
  refine g_aload_n hX dX4_init_33 rfl rfl ?_
  refine g_bipush (v := (nI 20)) hX dX4_init_34 (by decide) ?_
  refine g_newa_aI hX dX4_init_36 w_arrI (20) rfl (by omega) (by omega) (by omega) ?_
  refine g_putF hX hr dX4_init_38 fo_X4_25 (fun _ => ⟨rfl, rfl⟩) ((hs_ne (by omega)).trans (hs_eq _ _ _)) (Nat.le_of_ble_eq_true rfl) ?_
  show GW X 41 [some (.ref t), some (.ref m)] [] (hs (hs (hs (hs (hs (hs (hs (hs (hs h t (oB 4 [.int 0, .null, .null, .null, .null, .ref m])) (t + 1) (aI 20 (fun _ => 0))) t (oB 4 [.int 0, .ref (t + 1), .null, .null, .null, .ref m])) (t + 2) (aI 20 (fun _ => 0))) t (oB 4 [.int 0, .ref (t + 1), .ref (t + 2), .null, .null, .ref m])) (t + 3) (aI 20 (fun _ => 0))) t (oB 4 [.int 0, .ref (t + 1), .ref (t + 2), .ref (t + 3), .null, .ref m])) (t + 4) (aI 20 (fun _ => 0))) t (oB 4 [.int 0, .ref (t + 1), .ref (t + 2), .ref (t + 3), .ref (t + 4), .ref m])) (t + 5) 4 80
  refine g_return hX hr dX4_init_41 (by omega) (by omega)  ?_
  exact ⟨rfl, (by first | (rw [hs_cm (k := t) (j := t + 1) _ _ _ (by omega), hs_hs (k := t), hs_cm (k := t) (j := t + 2) _ _ _ (by omega), hs_cm (k := t) (j := t + 1) _ _ _ (by omega), hs_hs (k := t), hs_cm (k := t) (j := t + 3) _ _ _ (by omega), hs_cm (k := t) (j := t + 2) _ _ _ (by omega), hs_cm (k := t) (j := t + 1) _ _ _ (by omega), hs_hs (k := t), hs_cm (k := t) (j := t + 4) _ _ _ (by omega), hs_cm (k := t) (j := t + 3) _ _ _ (by omega), hs_cm (k := t) (j := t + 2) _ _ _ (by omega), hs_cm (k := t) (j := t + 1) _ _ _ (by omega), hs_hs (k := t)]; done) | (rw [hs_cm (k := t) (j := t + 1) _ _ _ (by omega), hs_hs (k := t), hs_cm (k := t) (j := t + 2) _ _ _ (by omega), hs_cm (k := t) (j := t + 1) _ _ _ (by omega), hs_hs (k := t), hs_cm (k := t) (j := t + 3) _ _ _ (by omega), hs_cm (k := t) (j := t + 2) _ _ _ (by omega), hs_cm (k := t) (j := t + 1) _ _ _ (by omega), hs_hs (k := t), hs_cm (k := t) (j := t + 4) _ _ _ (by omega), hs_cm (k := t) (j := t + 3) _ _ _ (by omega), hs_cm (k := t) (j := t + 2) _ _ _ (by omega), hs_cm (k := t) (j := t + 1) _ _ _ (by omega), hs_hs (k := t)]; rfl)), by omega⟩
