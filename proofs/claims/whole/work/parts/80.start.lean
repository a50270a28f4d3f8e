set_option maxRecDepth 20000 in
theorem w_ao : Cond.arrayOver (.object RX0) ∈ lw_tbl := t1 (List.mem_of_getElem? (i := 94) rfl)
set_option maxRecDepth 20000 in
theorem w_ls1 : Cond.laysStatic Bundle.tN "UNASSIGNED_STACK" Bundle.steD ∈ lw_tbl := t1 (List.mem_of_getElem? (i := 212) rfl)
set_option maxRecDepth 20000 in
theorem w_ls2 : Cond.laysStatic Bundle.tN "SUPPRESSED_SENTINEL" Bundle.listD ∈ lw_tbl := t1 (List.mem_of_getElem? (i := 214) rfl)
set_option maxRecDepth 20000 in
theorem w_it : Cond.initialized Bundle.tN ∈ lw_tbl := t1 (List.mem_of_getElem? (i := 7) rfl)
set_option maxRecDepth 20000 in
theorem w_sr_239 : Cond.stringRef RX3 239 "there is no such number" ∈ lw_tbl := t1 (List.mem_of_getElem? (i := 226) rfl)
set_option maxRecDepth 20000 in
theorem w_sr_242 : Cond.stringRef RX3 242 "outside of what is allowed" ∈ lw_tbl := t2 (List.mem_of_getElem? (i := 128) rfl)
set_option maxRecDepth 20000 in
theorem w_sr_47 : Cond.stringRef RX3 47 "there are 20 ringers" ∈ lw_tbl := t2 (List.mem_of_getElem? (i := 144) rfl)
set_option maxRecDepth 20000 in
theorem w_sr_84 : Cond.stringRef RX3 84 "the bell has a ringer" ∈ lw_tbl := t2 (List.mem_of_getElem? (i := 194) rfl)
set_option maxRecDepth 20000 in
theorem w_sr_90 : Cond.stringRef RX3 90 "the ringer rings a bell" ∈ lw_tbl := t2 (List.mem_of_getElem? (i := 196) rfl)
set_option maxRecDepth 20000 in
theorem w_sr_95 : Cond.stringRef RX3 95 "the ringer rings no bell" ∈ lw_tbl := t2 (List.mem_of_getElem? (i := 204) rfl)
set_option maxRecDepth 20000 in
theorem w_sr_113 : Cond.stringRef RX3 113 "there are 5 methods" ∈ lw_tbl := t2 (List.mem_of_getElem? (i := 222) rfl)
set_option maxRecDepth 20000 in
theorem w_sr_121 : Cond.stringRef RX3 121 "a place is in two pairs" ∈ lw_tbl := t2 (List.mem_of_getElem? (i := 230) rfl)
set_option maxRecDepth 20000 in
theorem w_sr_127 : Cond.stringRef RX3 127 "the method has 12 changes" ∈ lw_tbl := t2 (List.mem_of_getElem? (i := 231) rfl)
set_option maxRecDepth 20000 in
theorem w_sr_139 : Cond.stringRef RX3 139 "the method is empty" ∈ lw_tbl := t3 (List.mem_of_getElem? (i := 58) rfl)
set_option maxRecDepth 20000 in
theorem w_sr_161 : Cond.stringRef RX3 161 "the band cannot ring this method" ∈ lw_tbl := t3 (List.mem_of_getElem? (i := 88) rfl)
set_option maxRecDepth 20000 in
theorem w_in_X0 : Cond.instantiable RX0 7 ∈ lw_tbl := t1 (List.mem_of_getElem? (i := 95) rfl)
set_option maxRecDepth 20000 in
theorem w_in_X1 : Cond.instantiable RX1 6 ∈ lw_tbl := t1 (List.mem_of_getElem? (i := 68) rfl)
set_option maxRecDepth 20000 in
theorem w_in_X2 : Cond.instantiable RX2 10 ∈ lw_tbl := t1 (List.mem_of_getElem? (i := 25) rfl)
set_option maxRecDepth 20000 in
theorem w_in_X3 : Cond.instantiable RX3 7 ∈ lw_tbl := t1 (List.mem_of_getElem? (i := 17) rfl)
set_option maxRecDepth 20000 in
theorem w_in_X4 : Cond.instantiable RX4 6 ∈ lw_tbl := t3 (List.mem_of_getElem? (i := 165) rfl)
set_option maxRecDepth 20000 in
theorem w_in_X5 : Cond.instantiable RX5 18 ∈ lw_tbl := t3 (List.mem_of_getElem? (i := 159) rfl)
theorem st_arrI {s : State} {args : Array Value} (h : (Cond.arrayClass .int).before args s = true) : ∃ cA, ArrOfT s cA .int ∧ va_RA s cA .int := by
  obtain ⟨c, k, comp, h1, h2, h3⟩ := Cond.arrayClass_spec h
  exact ⟨c, fun n z => ⟨fun k h => (by cases h), k, h2, comp, h3⟩, h1⟩
theorem st_arrJ {s : State} {args : Array Value} (h : (Cond.arrayClass .long).before args s = true) : ∃ cA, ArrOfT s cA .long ∧ va_RA s cA .long := by
  obtain ⟨c, k, comp, h1, h2, h3⟩ := Cond.arrayClass_spec h
  exact ⟨c, fun n z => ⟨fun k h => (by cases h), k, h2, comp, h3⟩, h1⟩
theorem st_arrQ {s : State} {args : Array Value} {C : String} (h : (Cond.arrayOver (.object C)).before args s = true) : ∃ cA, ArrOfT s cA (.object C) ∧ va_RA s cA (.object C) := by
  obtain ⟨comp, c, k, h1, h2, h3, h4, h5⟩ := Cond.arrayOver_spec h
  exact ⟨c, fun n z => ⟨fun k h => (by cases h), k, h3, comp, h4⟩, k, comp, h3, h4, h1, h5⟩
theorem st_str {s : State} {b k : Nat} {tx : String} (h1 : (Cond.stringRef RX3 k tx).before #[Value.ref b] s = true) (h2 : (Cond.exactly (.string RX3 k) "java/lang/String").before #[Value.ref b] s = true) : ∃ a, vk_R RX3 k tx a s := by
  obtain ⟨a, c, cell, kk, e, -⟩ := Cond.exactly_spec h2
  exact ⟨a, vk_R.of h1 e⟩
theorem st_S {s : State} {b : Nat} (hts : ∀ w ∈ lw_tbl, w.before #[Value.ref b] s = true) (hs : ∀ c ∈ flatC (Jvm.Cond.and given_1 narrow_1), c.before #[Value.ref b] s = true) : gw_S s := by
  refine ⟨fun w hw hsp => va_tabs (gw_sp_on hsp) rfl (hts w hw), va_AO.of (hts _ w_ao), fun q hq => ?_, fun q hq => ?_⟩
  · simp only [gw_strs, List.mem_cons, List.not_mem_nil, or_false] at hq
    rcases hq with rfl | rfl | rfl | rfl | rfl | rfl | rfl | rfl | rfl | rfl | rfl
    · exact st_str (hts _ w_sr_239) (hs (Cond.exactly (.string RX3 239) "java/lang/String") (by decide +kernel))
    · exact st_str (hts _ w_sr_242) (hs (Cond.exactly (.string RX3 242) "java/lang/String") (by decide +kernel))
    · exact st_str (hts _ w_sr_47) (hs (Cond.exactly (.string RX3 47) "java/lang/String") (by decide +kernel))
    · exact st_str (hts _ w_sr_84) (hs (Cond.exactly (.string RX3 84) "java/lang/String") (by decide +kernel))
    · exact st_str (hts _ w_sr_90) (hs (Cond.exactly (.string RX3 90) "java/lang/String") (by decide +kernel))
    · exact st_str (hts _ w_sr_95) (hs (Cond.exactly (.string RX3 95) "java/lang/String") (by decide +kernel))
    · exact st_str (hts _ w_sr_113) (hs (Cond.exactly (.string RX3 113) "java/lang/String") (by decide +kernel))
    · exact st_str (hts _ w_sr_121) (hs (Cond.exactly (.string RX3 121) "java/lang/String") (by decide +kernel))
    · exact st_str (hts _ w_sr_127) (hs (Cond.exactly (.string RX3 127) "java/lang/String") (by decide +kernel))
    · exact st_str (hts _ w_sr_139) (hs (Cond.exactly (.string RX3 139) "java/lang/String") (by decide +kernel))
    · exact st_str (hts _ w_sr_161) (hs (Cond.exactly (.string RX3 161) "java/lang/String") (by decide +kernel))
  · simp only [gw_ncs, List.mem_cons, List.not_mem_nil, or_false] at hq
    rcases hq with rfl | rfl | rfl
    · exact va_Nc.of (hs (Cond.not (.castable "java/lang/IllegalArgumentException" "java/lang/IndexOutOfBoundsException")) (by decide +kernel))
    · exact va_Nc.of (hs (Cond.not (.castable "java/lang/IllegalStateException" "java/lang/IndexOutOfBoundsException")) (by decide +kernel))
    · exact va_Nc.of (hs (Cond.not (.castable "java/lang/IllegalStateException" "java/lang/IllegalArgumentException")) (by decide +kernel))
theorem st_Z {s : State} {b : Nat} (hts : ∀ w ∈ lw_tbl, w.before #[Value.ref b] s = true) (hs : ∀ c ∈ flatC (Jvm.Cond.and given_1 narrow_1), c.before #[Value.ref b] s = true) : gw_Z (fun q => s.heap.size ≤ q) s s.heap :=
  ⟨vx_Zqof (hts _ w_ls1) (hts _ w_it) (hs (Cond.isRef (.static Bundle.tN "UNASSIGNED_STACK" Bundle.steD)) (by decide +kernel)) (fun a ha => Nat.not_le.mpr ha), vx_Zqof (hts _ w_ls2) (hts _ w_it) (hs (Cond.isRef (.static Bundle.tN "SUPPRESSED_SENTINEL" Bundle.listD)) (by decide +kernel)) (fun a ha => Nat.not_le.mpr ha)⟩
theorem st_K {s : State} {b : Nat} (hts : ∀ w ∈ lw_tbl, w.before #[Value.ref b] s = true) : ∃ K : gw_K, va_K K.1 vwCl (gw_tys K) s := by
  have hts' : ∀ w ∈ lw_tbl.filter goodWord, w.before #[Value.ref b] s = true := fun w hw => hts w (List.mem_filter.mp hw).1
  obtain ⟨c0, i0, h0⟩ := u_known (C := RX0) (T := TX0) (N := 7) (n := 7) hts' i_X0 (hts _ w_in_X0)
  obtain ⟨c1, i1, h1⟩ := u_known (C := RX1) (T := TX1) (N := 6) (n := 6) hts' i_X1 (hts _ w_in_X1)
  obtain ⟨c2, i2, h2⟩ := u_known (C := RX2) (T := TX2) (N := 10) (n := 10) hts' i_X2 (hts _ w_in_X2)
  obtain ⟨c3, i3, h3⟩ := u_known (C := RX3) (T := TX3) (N := 7) (n := 7) hts' i_X3 (hts _ w_in_X3)
  obtain ⟨c4, i4, h4⟩ := u_known (C := RX4) (T := TX4) (N := 6) (n := 6) hts' i_X4 (hts _ w_in_X4)
  obtain ⟨c5, i5, h5⟩ := u_known (C := RX5) (T := TX5) (N := 18) (n := 18) hts' i_X5 (hts _ w_in_X5)
  obtain ⟨cI, aI1, aI2⟩ := st_arrI (hts _ w_arrI)
  obtain ⟨cJ, aJ1, aJ2⟩ := st_arrJ (hts _ w_arrJ)
  obtain ⟨cQ, aQ1, aQ2⟩ := st_arrQ (hts _ w_ao)
  refine ⟨((fun k => if k = 0 then c0 else if k = 1 then c1 else if k = 2 then c2 else if k = 3 then c3 else if k = 4 then c4 else c5, fun k => if k = 0 then i0 else if k = 1 then i1 else if k = 2 then i2 else if k = 3 then i3 else if k = 4 then i4 else i5), cI, cJ, cQ), fun k q hq => ?_, fun k q hq => ?_⟩
  · match k, hq with
    | 0, hq => cases hq; exact h0
    | 1, hq => cases hq; exact h1
    | 2, hq => cases hq; exact h2
    | 3, hq => cases hq; exact h3
    | 4, hq => cases hq; exact h4
    | 5, hq => cases hq; exact h5
    | k + 6, hq => simp [vwCl] at hq
  · match k, hq with
    | 0, hq => cases hq; exact ⟨aI1, aI2⟩
    | 1, hq => cases hq; exact ⟨aJ1, aJ2⟩
    | 2, hq => cases hq; exact ⟨aQ1, aQ2⟩
    | k + 3, hq => simp at hq
theorem inv_start {h : gw_H} (c0 : h 0 = oB 3 [.ref 1, .ref 10, .ref 19, .ref 24, .int 0, .int 0, .int 0]) (f0 : h 1 = oB 2 [.ref (1 + 1), .ref (1 + 2), .ref (1 + 3), .ref (1 + 4), .ref (1 + 5), .ref (1 + 6), .ref (1 + 7), .ref (1 + 8), .int 0, .int 0]) (f1 : h (1 + 1) = aI 20 (fun _ => 0)) (f2 : h (1 + 2) = aI 20 (fun _ => 0)) (f3 : h (1 + 3) = aI 20 (fun _ => 0)) (f4 : h (1 + 4) = aI 20 (fun _ => 0)) (f5 : h (1 + 5) = aI 20 (fun _ => 0)) (f6 : h (1 + 6) = aI 20 (fun _ => 0)) (f7 : h (1 + 7) = aI 20 (fun _ => 0)) (f8 : h (1 + 8) = aI 18 wsI) (t0 : h 10 = oB 2 [.ref (10 + 1), .ref (10 + 2), .ref (10 + 3), .ref (10 + 4), .ref (10 + 5), .ref (10 + 6), .ref (10 + 7), .ref (10 + 8), .int 0, .int 0]) (t1 : h (10 + 1) = aI 20 (fun _ => 0)) (t2 : h (10 + 2) = aI 20 (fun _ => 0)) (t3 : h (10 + 3) = aI 20 (fun _ => 0)) (t4 : h (10 + 4) = aI 20 (fun _ => 0)) (t5 : h (10 + 5) = aI 20 (fun _ => 0)) (t6 : h (10 + 6) = aI 20 (fun _ => 0)) (t7 : h (10 + 7) = aI 20 (fun _ => 0)) (t8 : h (10 + 8) = aI 18 wsI) (u0 : h 19 = oB 1 [.ref (19 + 1), .ref (19 + 2), .ref (19 + 3), .ref (19 + 4), .int 0, .int 0]) (u1 : h (19 + 1) = aI 6 (fun _ => 0)) (u2 : h (19 + 2) = aI 6 (fun _ => 0)) (u3 : h (19 + 3) = aI 6 (fun _ => 0)) (u4 : h (19 + 4) = aJ 122 (fun _ => 0)) (fl : h 24 = aQ 5 lsF) (l00 : h 25 = oB 0 [.ref (25 + 1), .ref (25 + 2), .int 0, .int (nI 1), .int (nI 1), .int 0, .int (nI 6)]) (l01 : h (25 + 1) = aI 12 (fun _ => 0)) (l02 : h (25 + 2) = aI 6 (fun _ => 0)) (l10 : h 28 = oB 0 [.ref (28 + 1), .ref (28 + 2), .int 0, .int (nI 1), .int (nI 1), .int 0, .int (nI 6)]) (l11 : h (28 + 1) = aI 12 (fun _ => 0)) (l12 : h (28 + 2) = aI 6 (fun _ => 0)) (l20 : h 31 = oB 0 [.ref (31 + 1), .ref (31 + 2), .int 0, .int (nI 1), .int (nI 1), .int 0, .int (nI 6)]) (l21 : h (31 + 1) = aI 12 (fun _ => 0)) (l22 : h (31 + 2) = aI 6 (fun _ => 0)) (l30 : h 34 = oB 0 [.ref (34 + 1), .ref (34 + 2), .int 0, .int (nI 1), .int (nI 1), .int 0, .int (nI 6)]) (l31 : h (34 + 1) = aI 12 (fun _ => 0)) (l32 : h (34 + 2) = aI 6 (fun _ => 0)) (l40 : h 37 = oB 0 [.ref (37 + 1), .ref (37 + 2), .int 0, .int (nI 1), .int (nI 1), .int 0, .int (nI 6)]) (l41 : h (37 + 1) = aI 12 (fun _ => 0)) (l42 : h (37 + 2) = aI 6 (fun _ => 0)) (m0 : h 40 = oB 5 [.int 0, .int 0, .ref 41, .ref 42, .ref 43, .int 0, .ref 44, .ref 45, .int 0, .int 0, .ref 46, .ref 47, .int 0, .ref 48, .ref 49, .ref 50, .ref 51, .ref 56]) (m41 : h 41 = aI 20 (fun _ => 0)) (m42 : h 42 = aI 20 (fun _ => 0)) (m43 : h 43 = aI 18 wsI) (m44 : h 44 = aI 5 (fun _ => 0)) (m45 : h 45 = aI 60 (fun _ => 0)) (m46 : h 46 = aI 201 (fun _ => 0)) (m47 : h 47 = aI 201 (fun _ => 0)) (m48 : h 48 = aI 6 (fun _ => 0)) (m49 : h 49 = aI 6 (fun _ => 0)) (m50 : h 50 = aI 6 (fun _ => 0)) (s0 : h 51 = oB 4 [.int 0, .ref (51 + 1), .ref (51 + 2), .ref (51 + 3), .ref (51 + 4), .ref 40]) (s1 : h (51 + 1) = aI 20 (fun _ => 0)) (s2 : h (51 + 2) = aI 20 (fun _ => 0)) (s3 : h (51 + 3) = aI 20 (fun _ => 0)) (s4 : h (51 + 4) = aI 20 (fun _ => 0)) (a0 : h 56 = oB 4 [.int 0, .ref (56 + 1), .ref (56 + 2), .ref (56 + 3), .ref (56 + 4), .ref 40]) (a1 : h (56 + 1) = aI 20 (fun _ => 0)) (a2 : h (56 + 2) = aI 20 (fun _ => 0)) (a3 : h (56 + 3) = aI 20 (fun _ => 0)) (a4 : h (56 + 4) = aI 20 (fun _ => 0)) (o61 : h 61 = aJ 1 (fun _ => 0)) : INV h 62 (nI 0) (fun _ => 0) := by
  refine ⟨Nat.le_refl 62, o61, (fun _ => 0), (fun _ => 0), (fun _ => 0), (fun _ => 0), (fun _ => 0), (fun _ => 0), wsI, 0, 0, 0, 0, 0, (fun _ => 0), (fun _ => 1), (fun _ => nI 1), (fun _ => nI 0), (fun _ => nI 6), (fun _ _ => 0), (fun _ _ => 0), (fun _ => 0), ⟨c0, f0, f1, f2, f3, f4, f5, ⟨_, f6⟩, f7, f8, ⟨_, _, _, _, _, _, _, _, 0, 0, t0, t1, t2, t3, t4, t5, t6, t7, t8⟩, ⟨_, _, _, _, 0, 0, u0, u1, u2, u3, u4⟩, fl, fun k c hk hc => ?_⟩, ⟨0, 0, _, _, _, _, _, _, _, _, _, m0, m46, m47, m48, m49, m50, a0, a1, a2, a3, a4⟩, ⟨m41, m42, m43, m44, m45, s0, s1, s2, s3, s4⟩, ⟨by decide, by decide, fun r hr => absurd hr (Nat.not_lt_zero r), fun r hr => absurd hr (Nat.not_lt_zero r), fun r hr => absurd hr (Nat.not_lt_zero r), fun k hk => Nat.zero_le _, fun k hk q hq => rfl, fun k hk i hi => absurd hi (Nat.not_lt_zero i), fun k hk => LOK_0 _⟩⟩
  rcases (show k = 0 ∨ k = 1 ∨ k = 2 ∨ k = 3 ∨ k = 4 by omega) with rfl | rfl | rfl | rfl | rfl
  · obtain rfl : c = 25 := hc
    exact ⟨l00, l01, l02⟩
  · obtain rfl : c = 28 := hc
    exact ⟨l10, l11, l12⟩
  · obtain rfl : c = 31 := hc
    exact ⟨l20, l21, l22⟩
  · obtain rfl : c = 34 := hc
    exact ⟨l30, l31, l32⟩
  · obtain rfl : c = 37 := hc
    exact ⟨l40, l41, l42⟩
