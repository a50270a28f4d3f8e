set_option maxRecDepth 20000 in
theorem law_start {l : Launch} {K : gw_K} {X : gw_X} {bb Ls : Nat} {xs : Nat → Int32} (hst : l.stackTraces = false) (hX : FX l K X cL_law RL 13 482 627089 7214836) (hSX : SX X bb Ls xs) (hLs : Ls ≤ 2048) (kend : ∀ (L : List (Option Value)) (h : gw_H) (n kc ks : Nat), kc ≤ 627089 → ks ≤ 7214836 → GL X bb 1490 L [.int (nI 1)] h n kc ks) : GL X bb 0 [none, none, none, none, none, none, none, none, none] [] (fun _ => aI 0 (fun _ => 0)) 0 0 0 := by
  refine l_new hX dL_law_0 nl_L_8 (by omega) (by omega) ?_
  refine l_dup hX dL_law_3 rfl ?_
  refine l_callI (As := []) hX dL_law_4 cb_X3_init ml_L_76 im_X3_init rfl rfl rfl rfl (kX3_init (n := 0) hst (hs_eq _ _ _)) (Nat.le_of_ble_eq_true rfl) (Nat.le_of_ble_eq_true rfl) (by omega) (by omega) (Nat.le_of_ble_eq_true rfl) (fun rv h1 n1 hn1 hp => ?_)
  obtain ⟨rfl, rfl, rfl⟩ := hp
  refine l_astore_n (i := 1) hX dL_law_7 rfl (Nat.le_of_ble_eq_true rfl) (by decide) rfl ?_
  refine l_new hX dL_law_8 nl_L_77 (by omega) (by omega) ?_
  refine l_dup hX dL_law_11 rfl ?_
  refine l_callI (As := []) hX dL_law_12 cb_X5_init ml_L_79 im_X5_init rfl rfl rfl rfl (kX5_init (n := 0) hst (hs_eq _ _ _)) (Nat.le_of_ble_eq_true rfl) (Nat.le_of_ble_eq_true rfl) (by omega) (by omega) (Nat.le_of_ble_eq_true rfl) (fun rv h1 n1 hn1 hp => ?_)
  obtain ⟨rfl, rfl, rfl⟩ := hp
  refine l_astore_n (i := 2) hX dL_law_15 rfl (Nat.le_of_ble_eq_true rfl) (by decide) rfl ?_
  refine l_iconst (v := nI 1) hX dL_law_16 (by decide) ?_
  refine l_newa_aJ hX dL_law_17 w_arrJ 1 rfl (by omega) (by omega) (by omega) ?_
  refine l_astore_n (i := 3) hX dL_law_19 rfl (Nat.le_of_ble_eq_true rfl) (by decide) rfl ?_
  refine l_iconst (v := nI 0) hX dL_law_20 (by decide) ?_
  refine l_istore (i := 4) hX dL_law_21 (Nat.le_of_ble_eq_true rfl) (by decide) rfl ?_
  refine law_loop hst hX hSX hLs kend (Ls + 1) 0 _ _ _ _ (nI 0) (fun _ => 0) (by omega) (by omega) (inv_start rfl rfl rfl rfl rfl rfl rfl rfl rfl rfl rfl rfl rfl rfl rfl rfl rfl rfl rfl rfl rfl rfl rfl rfl rfl rfl rfl rfl rfl rfl rfl rfl rfl rfl rfl rfl rfl rfl rfl rfl rfl rfl rfl rfl rfl rfl rfl rfl rfl rfl rfl rfl rfl rfl rfl rfl rfl rfl rfl rfl rfl rfl) (by omega) (by omega)
