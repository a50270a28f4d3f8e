set_option maxRecDepth 20000 in
theorem law_head {l : Launch} {K : gw_K} {X : gw_X} {bb Ls : Nat} {xs : Nat → Int32} (hX : FX l K X cL_law RL 13 482 627089 7214836) (hSX : SX X bb Ls xs) (hLs : Ls ≤ 2048) (kend : ∀ (L : List (Option Value)) (h : gw_H) (n kc ks : Nat), kc ≤ 627089 → ks ≤ 7214836 → GL X bb 1490 L [.int (nI 1)] h n kc ks) {t n kc ks : Nat} {h : gw_H} (ht : 4 * t ≤ Ls) (h4 : t ≤ 512) (hkc : kc ≤ 627089) (hks : ks ≤ 7214836) (body : 4 * t + 4 ≤ Ls → GL X bb 32 [none, some (.ref 0), some (.ref 40), some (.ref 61), some (.int (nI (4 * t))), none, none, none, none] [] h n kc ks) : GL X bb 23 [none, some (.ref 0), some (.ref 40), some (.ref 61), some (.int (nI (4 * t))), none, none, none, none] [] h n kc ks := by
  refine l_iload hX dL_law_23 rfl ?_
  refine l_sln (i := 0) hX hSX dL_law_25 dL_law_26 ?_
  refine l_iconst (v := nI 4) hX dL_law_27 (by decide) ?_
  refine l_isub hX dL_law_28 ?_
  refine l_icmp_gt (tgt := 1489) hX dL_law_29 (by decide) (fun c => ?_) (fun c => ?_)
  · refine l_iconst (v := nI 1) hX dL_law_1489 (by decide) ?_
    exact kend _ _ _ _ _ hkc hks
  · refine body ?_
    have e1 := pk_sub_toInt (a := Ls) (b := 4) (by omega) (by omega)
    have e2 : (nI (4 * t)).toInt = ((4 * t : Nat) : Int) := nI_toInt (by omega)
    have c2 : ¬ (nI Ls - nI 4).toInt < (nI (4 * t)).toInt := fun q => c (Int32.lt_iff_toInt_lt.mpr q)
    omega
set_option maxRecDepth 20000 in
set_option maxHeartbeats 4000000 in
theorem law_body {l : Launch} {K : gw_K} {X : gw_X} {bb Ls : Nat} {xs : Nat → Int32} (hst : l.stackTraces = false) (hX : FX l K X cL_law RL 13 482 627089 7214836) (hSX : SX X bb Ls xs) (hLs : Ls ≤ 2048) {t n kc ks : Nat} {h : gw_H} {thr : Int32} {o : Nat → Int64} (hi : 4 * t + 4 ≤ Ls) (hI : INV h n thr o) (hkc : kc + 200 ≤ 627089) (hks : ks + 1600 ≤ 7214836) (KK : ∀ (h' : gw_H) (n' kc' ks' : Nat) (thr' : Int32) (o' : Nat → Int64), INV h' n' thr' o' → kc' ≤ kc + 200 → ks' ≤ ks + 1600 → GL X bb 1483 [none, some (.ref 0), some (.ref 40), some (.ref 61), some (.int (nI (4 * t))), none, none, none, none] [] h' n' kc' ks') : GL X bb 32 [none, some (.ref 0), some (.ref 40), some (.ref 61), some (.int (nI (4 * t))), none, none, none, none] [] h n kc ks := by
  refine l_sc0 (i := 4 * t) hX hSX (by omega) (by omega) dL_law_32 dL_law_33 dL_law_35 rfl ?_
  refine l_bipush (v := nI 31) hX dL_law_36 (by decide) ?_
  refine l_iand hX dL_law_38 ?_
  obtain ⟨j, hj, e⟩ := pk_andE (xs (4 * t)) (m := nI 31) 5 (by decide)
  rw [e]
  rcases (show j = 0 ∨ j = 1 ∨ j = 2 ∨ j = 3 ∨ j = 4 ∨ j = 5 ∨ j = 6 ∨ j = 7 ∨ j = 8 ∨ j = 9 ∨ j = 10 ∨ j = 11 ∨ j = 12 ∨ j = 13 ∨ j = 14 ∨ j = 15 ∨ j = 16 ∨ j = 17 ∨ j = 18 ∨ j = 19 ∨ j = 20 ∨ j = 21 ∨ j = 22 ∨ j = 23 ∨ j = 24 ∨ j = 25 ∨ j = 26 ∨ j = 27 ∨ j = 28 ∨ j = 29 ∨ j = 30 ∨ j = 31 by omega) with rfl | rfl | rfl | rfl | rfl | rfl | rfl | rfl | rfl | rfl | rfl | rfl | rfl | rfl | rfl | rfl | rfl | rfl | rfl | rfl | rfl | rfl | rfl | rfl | rfl | rfl | rfl | rfl | rfl | rfl | rfl | rfl
  · exact l_tableIn (tgt := 136) hX dL_law_39 (by decide) (by decide) rfl (by decide) (lc_ringer hst hX hSX (i := 4 * t) hi hLs hI hkc hks KK)
  · exact l_tableIn (tgt := 216) hX dL_law_39 (by decide) (by decide) rfl (by decide) (lc_vote hst hX hSX (i := 4 * t) hi hLs hI hkc hks KK)
  · exact l_tableIn (tgt := 284) hX dL_law_39 (by decide) (by decide) rfl (by decide) (lc_seat hst hX hSX (i := 4 * t) hi hLs hI hkc hks KK)
  · exact l_tableIn (tgt := 364) hX dL_law_39 (by decide) (by decide) rfl (by decide) (lc_elect hst hX hSX (i := 4 * t) hi hLs hI hkc hks KK)
  · exact l_tableIn (tgt := 420) hX dL_law_39 (by decide) (by decide) rfl (by decide) (lc_put hst hX hSX (i := 4 * t) hi hLs hI hkc hks KK)
  · exact l_tableIn (tgt := 500) hX dL_law_39 (by decide) (by decide) rfl (by decide) (lc_leave hst hX hSX (i := 4 * t) hi hLs hI hkc hks KK)
  · exact l_tableIn (tgt := 556) hX dL_law_39 (by decide) (by decide) rfl (by decide) (lc_told hst hX hSX (i := 4 * t) hi hLs hI hkc hks KK)
  · exact l_tableIn (tgt := 624) hX dL_law_39 (by decide) (by decide) rfl (by decide) (lc_bell hst hX hSX (i := 4 * t) hi hLs hI hkc hks KK)
  · exact l_tableIn (tgt := 704) hX dL_law_39 (by decide) (by decide) rfl (by decide) (lc_method hst hX hSX (i := 4 * t) hi hLs hI hkc hks KK)
  · exact l_tableIn (tgt := 748) hX dL_law_39 (by decide) (by decide) rfl (by decide) (lc_add hst hX hSX (i := 4 * t) hi hLs hI hkc hks KK)
  · exact l_tableIn (tgt := 816) hX dL_law_39 (by decide) (by decide) rfl (by decide) (lc_about hst hX hSX (i := 4 * t) hi hLs hI hkc hks KK)
  · exact l_tableIn (tgt := 884) hX dL_law_39 (by decide) (by decide) rfl (by decide) (lc_row hst hX hSX (i := 4 * t) hi hLs hI hkc hks KK)
  · exact l_tableIn (tgt := 952) hX dL_law_39 (by decide) (by decide) rfl (by decide) (lc_dodges hst hX hSX (i := 4 * t) hi hLs hI hkc hks KK)
  · exact l_tableIn (tgt := 1020) hX dL_law_39 (by decide) (by decide) rfl (by decide) (lc_ring hst hX hSX (i := 4 * t) hi hLs hI hkc hks KK)
  · exact l_tableIn (tgt := 1100) hX dL_law_39 (by decide) (by decide) rfl (by decide) (lc_would hst hX hSX (i := 4 * t) hi hLs hI hkc hks KK)
  · exact l_tableIn (tgt := 1180) hX dL_law_39 (by decide) (by decide) rfl (by decide) (lc_advise hst hX hSX (i := 4 * t) hi hLs hI hkc hks KK)
  · exact l_tableIn (tgt := 1236) hX dL_law_39 (by decide) (by decide) rfl (by decide) (lc_count hst hX hSX (i := 4 * t) hi hLs hI hkc hks KK)
  · exact l_tableIn (tgt := 1292) hX dL_law_39 (by decide) (by decide) rfl (by decide) (lc_pass hst hX hSX (i := 4 * t) hi hLs hI hkc hks KK)
  · exact l_tableIn (tgt := 1348) hX dL_law_39 (by decide) (by decide) rfl (by decide) (lc_foresee hst hX hSX (i := 4 * t) hi hLs hI hkc hks KK)
  · exact l_tableIn (tgt := 1428) hX dL_law_39 (by decide) (by decide) rfl (by decide) (lc_mean hst hX hSX (i := 4 * t) hi hLs hI hkc hks KK)
  · exact l_tableIn (tgt := 1469) hX dL_law_39 (by decide) (by decide) rfl (by decide) (lc_digest hst hX hSX (i := 4 * t) hi hLs hI hkc hks KK)
  · exact l_tableOut (tgt := 1483) hX dL_law_39 (by decide) (by decide) (KK _ _ _ _ _ _ hI (by omega) (by omega))
  · exact l_tableOut (tgt := 1483) hX dL_law_39 (by decide) (by decide) (KK _ _ _ _ _ _ hI (by omega) (by omega))
  · exact l_tableOut (tgt := 1483) hX dL_law_39 (by decide) (by decide) (KK _ _ _ _ _ _ hI (by omega) (by omega))
  · exact l_tableOut (tgt := 1483) hX dL_law_39 (by decide) (by decide) (KK _ _ _ _ _ _ hI (by omega) (by omega))
  · exact l_tableOut (tgt := 1483) hX dL_law_39 (by decide) (by decide) (KK _ _ _ _ _ _ hI (by omega) (by omega))
  · exact l_tableOut (tgt := 1483) hX dL_law_39 (by decide) (by decide) (KK _ _ _ _ _ _ hI (by omega) (by omega))
  · exact l_tableOut (tgt := 1483) hX dL_law_39 (by decide) (by decide) (KK _ _ _ _ _ _ hI (by omega) (by omega))
  · exact l_tableOut (tgt := 1483) hX dL_law_39 (by decide) (by decide) (KK _ _ _ _ _ _ hI (by omega) (by omega))
  · exact l_tableOut (tgt := 1483) hX dL_law_39 (by decide) (by decide) (KK _ _ _ _ _ _ hI (by omega) (by omega))
  · exact l_tableOut (tgt := 1483) hX dL_law_39 (by decide) (by decide) (KK _ _ _ _ _ _ hI (by omega) (by omega))
  · exact l_tableOut (tgt := 1483) hX dL_law_39 (by decide) (by decide) (KK _ _ _ _ _ _ hI (by omega) (by omega))
set_option maxRecDepth 20000 in
theorem law_loop {l : Launch} {K : gw_K} {X : gw_X} {bb Ls : Nat} {xs : Nat → Int32} (hst : l.stackTraces = false) (hX : FX l K X cL_law RL 13 482 627089 7214836) (hSX : SX X bb Ls xs) (hLs : Ls ≤ 2048) (kend : ∀ (L : List (Option Value)) (h : gw_H) (n kc ks : Nat), kc ≤ 627089 → ks ≤ 7214836 → GL X bb 1490 L [.int (nI 1)] h n kc ks) : ∀ (f t n kc ks : Nat) (h : gw_H) (thr : Int32) (o : Nat → Int64), Ls ≤ 4 * t + f → 4 * t ≤ Ls → INV h n thr o → kc ≤ 100 + 200 * t → ks ≤ 2000 + 1600 * t → GL X bb 23 [none, some (.ref 0), some (.ref 40), some (.ref 61), some (.int (nI (4 * t))), none, none, none, none] [] h n kc ks := by
  intro f
  induction f with
  | zero =>
    intro t n kc ks h thr o h1 h2 hI hkc hks
    refine law_head hX hSX hLs kend (by omega) (by omega) (by omega) (by omega) ?_
    intro hc
    exact absurd hc (by omega)
  | succ f ih =>
    intro t n kc ks h thr o h1 h2 hI hkc hks
    refine law_head hX hSX hLs kend (by omega) (by omega) (by omega) (by omega) ?_
    intro hc
    refine law_body hst hX hSX hLs hc hI (by omega) (by omega) (fun h' n' kc' ks' thr' o' hI' g1 g2 => ?_)
    refine l_iinc (v := nI (4 * (t + 1))) hX dL_law_1483 rfl (by decide) rfl (gn_inc (4 * t) 4) ?_
    refine l_goto (tgt := 23) hX dL_law_1486 (by decide) ?_
    exact ih (t + 1) n' kc' ks' h' thr' o' (by omega) (by omega) hI' (by omega) (by omega)
