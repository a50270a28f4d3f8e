theorem vmore {vt : Nat → Int32} {rc : Nat} {x : Int32} (h : ∀ r, r < rc → 0 ≤ vt r) (hx : 0 ≤ x) : ∀ r, r < rc + 1 → 0 ≤ upd vt rc x r := fun r hr => by
  unfold upd
  split
  · exact hx
  · exact h r (by omega)
theorem vset {vt : Nat → Int32} {rc a : Nat} {x : Int32} (h : ∀ r, r < rc → 0 ≤ vt r) (hx : 0 ≤ x) : ∀ r, r < rc → 0 ≤ upd vt a x r := fun r hr => by
  unfold upd
  split
  · exact hx
  · exact h r hr
theorem smore {sk : Nat → Int32} {rc b : Nat} (h : ∀ r, r < rc → ∃ k, k ≤ 9 ∧ sk r = nI k) (hb : b ≤ 9) : ∀ r, r < rc + 1 → ∃ k, k ≤ 9 ∧ upd sk rc (nI b) r = nI k := fun r hr => by
  unfold upd
  split
  · exact ⟨b, hb, rfl⟩
  · exact h r (by omega)
set_option maxRecDepth 20000 in
theorem pr_ringer {l : Launch} {K : gw_K} (hst : l.stackTraces = false) {h : gw_H} {n : Nat} {thr : Int32} {o : Nat → Int64} (hI : INV h n thr o) (a b d : Int32) : PAIR l K h n mL_ringer hhL_ringer mX5_ringer [.ref 0, .int a, .int b, .int d, .ref 61] [.ref 40, .int a, .int b, .int d] := by
  obtain ⟨hn62, h61, wd, sk, vt, ti, fa, st, ws, rc, dy, mc, tch, frs, ln, lds, rws, frx, hos, chs, dgs, cs, hC, hX, hM, hG⟩ := hI
  obtain ⟨r0, f0, f1, f2, f3, f4, f5, ⟨tf, f6⟩, f7, f8, ⟨owd, osk, ovt, oti, ofa, otf, ost, ows, orc, ody, t0, t1, t2, t3, t4, t5, t6, t7, t8⟩, ⟨pl, mv, ma, sn, cm, rr, u0, u1, u2, u3, u4⟩, fl, fli⟩ := id hC
  obtain ⟨len, ady, co, dg, rw_, go, we, avt, ati, afa, ast, m0, q46, q47, q48, q49, q50, q56, q57, q58, q59, q60⟩ := id hX
  obtain ⟨m41, m42, m43, m44, m45, s0, s1, s2, s3, s4⟩ := id hM
  obtain ⟨hrc, hm5, hsi, hvp, hsk, hln, hlk, hv, hlo⟩ := id hG
  have hso : ∀ r, r < rc → seatOK (st r) := fun r hr => (hsi r hr).1
  have hl : ∀ k c, k < mc → c = 25 + 3 * k → h c = oB 0 [.ref (c + 1), .ref (c + 2), .int (nI (ln k)), .int (nI (lds k)), .int (rws k), .int (frx k), .int (hos k)] ∧ h (c + 1) = aI 12 (chs k) ∧ h (c + 2) = aI 6 (dgs k) := fun k c hk hc => fli k c (by omega) hc
  have hmc : ∀ m, m < mc → ln m ≤ 12 ∧ codI (chM cs ln m) (crM (chM cs ln m) (ln m) * ln m) = nI 1865 := fun m hm => ⟨hln m (by omega), (hlo m (by omega)).2.2.2⟩
  rcases pk_ix a (n := 4) (by omega) with h1 | h1 | ⟨a, ha, rfl⟩
  · refine ⟨1, _, kL_ringer hst r0 (kX3_ringer_w hst r0 f0 (Or.inl h1)) (fun _ _ _ q => q.elim) (fun E h' n' q => Or.inl q.1), ?_⟩
    rintro rv h' n' (⟨E, ⟨rfl, rfl, rfl⟩, hdx⟩ | ⟨v, o2, hw, q, -⟩)
    · have hrv : rv = some (.int (nI 1)) := by
        rcases hdx with ⟨z, w⟩ | ⟨z, w⟩ | ⟨z, w⟩
        · exact w
        · exact absurd z (by decide)
        · exact absurd z (by decide)
      refine ⟨hrv, rfl, by decide, 0, 0, _, o, by decide, by decide, h61, ⟨_, m0⟩, kX5_ringer_w hst m0 m41 m42 m43 m44 m45 q46 q47 q48 q49 q50 s0 s1 s2 s3 s4 q56 q57 q58 q59 q60 (hn62) (Or.inl h1), ?_⟩
      intro rv2 h'' n'' hp
      exact ⟨_, hp.1.symm, Nat.le_of_eq hp.2.1, hp.fin hC (fun _ _ => rfl) hM h61 hG hn62, fun z => absurd z (by decide)⟩
    · exact q.elim
  · refine ⟨1, _, kL_ringer hst r0 (kX3_ringer_w hst r0 f0 (Or.inr h1)) (fun _ _ _ q => q.elim) (fun E h' n' q => Or.inl q.1), ?_⟩
    rintro rv h' n' (⟨E, ⟨rfl, rfl, rfl⟩, hdx⟩ | ⟨v, o2, hw, q, -⟩)
    · have hrv : rv = some (.int (nI 1)) := by
        rcases hdx with ⟨z, w⟩ | ⟨z, w⟩ | ⟨z, w⟩
        · exact w
        · exact absurd z (by decide)
        · exact absurd z (by decide)
      refine ⟨hrv, rfl, by decide, 0, 0, _, o, by decide, by decide, h61, ⟨_, m0⟩, kX5_ringer_w hst m0 m41 m42 m43 m44 m45 q46 q47 q48 q49 q50 s0 s1 s2 s3 s4 q56 q57 q58 q59 q60 (hn62) (Or.inr h1), ?_⟩
      intro rv2 h'' n'' hp
      exact ⟨_, hp.1.symm, Nat.le_of_eq hp.2.1, hp.fin hC (fun _ _ => rfl) hM h61 hG hn62, fun z => absurd z (by decide)⟩
    · exact q.elim
  · rcases Classical.em (b < nI 0 ∨ nI 9 < b) with h2 | h2
    · refine ⟨2, _, kL_ringer hst r0 (kX3_ringer_s hst r0 f0 (ha) (h2)) (fun _ _ _ q => q.elim) (fun E h' n' q => Or.inr (Or.inl q.1)), ?_⟩
      rintro rv h' n' (⟨E, ⟨rfl, rfl, rfl⟩, hdx⟩ | ⟨v, o2, hw, q, -⟩)
      · have hrv : rv = some (.int (nI 2)) := by
          rcases hdx with ⟨z, w⟩ | ⟨z, w⟩ | ⟨z, w⟩
          · exact absurd z (by decide)
          · exact w
          · exact absurd z (by decide)
        refine ⟨hrv, rfl, by decide, 0, 0, _, o, by decide, by decide, h61, ⟨_, m0⟩, kX5_ringer_s hst m0 m41 m42 m43 m44 m45 q46 q47 q48 q49 q50 s0 s1 s2 s3 s4 q56 q57 q58 q59 q60 (hn62) (ha) (h2), ?_⟩
        intro rv2 h'' n'' hp
        exact ⟨_, hp.1.symm, Nat.le_of_eq hp.2.1, hp.fin hC (fun _ _ => rfl) hM h61 hG hn62, fun z => absurd z (by decide)⟩
      · exact q.elim
    · rcases Classical.em (d < nI 0 ∨ nI 99 < d) with h3 | h3
      · refine ⟨2, _, kL_ringer hst r0 (kX3_ringer_v hst r0 f0 (ha) (h2) (h3)) (fun _ _ _ q => q.elim) (fun E h' n' q => Or.inr (Or.inl q.1)), ?_⟩
        rintro rv h' n' (⟨E, ⟨rfl, rfl, rfl⟩, hdx⟩ | ⟨v, o2, hw, q, -⟩)
        · have hrv : rv = some (.int (nI 2)) := by
            rcases hdx with ⟨z, w⟩ | ⟨z, w⟩ | ⟨z, w⟩
            · exact absurd z (by decide)
            · exact w
            · exact absurd z (by decide)
          refine ⟨hrv, rfl, by decide, 0, 0, _, o, by decide, by decide, h61, ⟨_, m0⟩, kX5_ringer_v hst m0 m41 m42 m43 m44 m45 q46 q47 q48 q49 q50 s0 s1 s2 s3 s4 q56 q57 q58 q59 q60 (hn62) (ha) (h2) (h3), ?_⟩
          intro rv2 h'' n'' hp
          exact ⟨_, hp.1.symm, Nat.le_of_eq hp.2.1, hp.fin hC (fun _ _ => rfl) hM h61 hG hn62, fun z => absurd z (by decide)⟩
        · exact q.elim
      · rcases Nat.lt_or_ge rc 20 with h4 | h4
        · obtain ⟨b, hb9, rfl⟩ := gn_in (by omega) h2
          obtain ⟨d, hd9, rfl⟩ := gn_in (by omega) h3
          refine ⟨0, _, kL_ringer hst r0 (kX3_ringer hst r0 f0 f1 f2 f3 f7 (ha) (h2) (h3) (h4)) (fun rv h' n' q => ⟨_, o, q.1, by rw [q.2.1]; exact (hs_ne (by omega)).trans ((hs_ne (by omega)).trans ((hs_ne (by omega)).trans ((hs_ne (by omega)).trans ((hs_ne (by omega)).trans (h61)))))⟩) (fun _ _ _ q => q.elim), ?_⟩
          rintro rv h' n' (⟨E, q, -⟩ | ⟨v, o2, hw, q, ho2, rfl, rfl⟩)
          · exact q.elim
          · obtain ⟨qv, qh, qn⟩ := q
            subst qn
            have hC2 := ((((hC.s_tow _ _).s_wd _).s_sk _).s_vt _ |>.s_st _).tr40 (fun j _ => congrFun qh j)
            have tr : ∀ j, 40 ≤ j → j ≤ 60 → (hs hw 61 (aJ 1 (vp_updL o2 0 v.toInt64))) j = h j := fun j h1 h2 => (hs_ne (by omega)).trans ((congrFun qh j).trans ((hs_ne (by omega)).trans ((hs_ne (by omega)).trans ((hs_ne (by omega)).trans ((hs_ne (by omega)).trans ((hs_ne (by omega)).trans (rfl)))))))
            have hC3 := hC2.tr40 (h' := hs hw 61 (aJ 1 (vp_updL o2 0 v.toInt64))) (fun j hj => hs_ne (by omega))
            have hM3 := hM.tr (h' := hs hw 61 (aJ 1 (vp_updL o2 0 v.toInt64))) (fun j hj => tr j (by omega) (by omega))
            refine ⟨rfl, rfl, by decide, 0, 0, _, _, by decide, by decide, hs_eq _ _ _, ⟨_, (tr 40 (by decide) (by decide)).trans m0⟩, kX5_ringer hst ((tr 40 (by decide) (by decide)).trans m0) ((tr 41 (by decide) (by decide)).trans m41) ((tr 42 (by decide) (by decide)).trans m42) ((tr 43 (by decide) (by decide)).trans m43) ((tr 44 (by decide) (by decide)).trans m44) ((tr 45 (by decide) (by decide)).trans m45) ((tr 46 (by decide) (by decide)).trans q46) ((tr 47 (by decide) (by decide)).trans q47) ((tr 48 (by decide) (by decide)).trans q48) ((tr 49 (by decide) (by decide)).trans q49) ((tr 50 (by decide) (by decide)).trans q50) ((tr 51 (by decide) (by decide)).trans s0) ((tr (51 + 1) (by decide) (by decide)).trans s1) ((tr (51 + 2) (by decide) (by decide)).trans s2) ((tr (51 + 3) (by decide) (by decide)).trans s3) ((tr (51 + 4) (by decide) (by decide)).trans s4) ((tr 56 (by decide) (by decide)).trans q56) ((tr (56 + 1) (by decide) (by decide)).trans q57) ((tr (56 + 2) (by decide) (by decide)).trans q58) ((tr (56 + 3) (by decide) (by decide)).trans q59) ((tr (56 + 4) (by decide) (by decide)).trans q60) (hn62) (ha) (h2) (h3) (h4), ?_⟩
            intro rv2 h'' n'' hp
            have hf := hp.fin hC3 (fun j hj => (hs_ne (by omega)).trans ((hs_ne (by omega)).trans ((hs_ne (by omega)).trans ((hs_ne (by omega)).trans (rfl))))) ((((hM3.s_wd _).s_sk _).s_vt _).s_st _) ((hs_ne (by omega)).trans ((hs_ne (by omega)).trans ((hs_ne (by omega)).trans ((hs_ne (by omega)).trans (hs_eq _ _ _))))) (⟨by omega, hm5, seatI_more hsi, vmore hvp (nI_pos' (by omega)), smore hsk hb9, hln, hlk, hv, hlo⟩) (by omega)
            exact ⟨_, hp.1.symm, by have := hp.2.1; omega, hf, fun _ => pk_uLs.trans (congrArg Int32.toInt64 ((Value.int.inj (Option.some.inj qv)).trans (rfl)))⟩
        · refine ⟨3, _, kL_ringer hst r0 (kX3_ringer_f hst r0 f0 (ha) (h2) (h3) (by omega)) (fun _ _ _ q => q.elim) (fun E h' n' q => Or.inr (Or.inr (q.1))), ?_⟩
          rintro rv h' n' (⟨E, ⟨rfl, rfl, rfl⟩, hdx⟩ | ⟨v, o2, hw, q, -⟩)
          · have hrv : rv = some (.int (nI 3)) := by
              rcases hdx with ⟨z, w⟩ | ⟨z, w⟩ | ⟨z, w⟩
              · exact absurd z (by decide)
              · exact absurd z (by decide)
              · exact w
            refine ⟨hrv, rfl, by decide, 0, 0, _, o, by decide, by decide, h61, ⟨_, m0⟩, kX5_ringer_f hst m0 m41 m42 m43 m44 m45 q46 q47 q48 q49 q50 s0 s1 s2 s3 s4 q56 q57 q58 q59 q60 (hn62) (ha) (h2) (h3) (by omega), ?_⟩
            intro rv2 h'' n'' hp
            exact ⟨_, hp.1.symm, Nat.le_of_eq hp.2.1, hp.fin hC (fun _ _ => rfl) hM h61 hG hn62, fun z => absurd z (by decide)⟩
          · exact q.elim
set_option maxRecDepth 20000 in
theorem pr_vote {l : Launch} {K : gw_K} (hst : l.stackTraces = false) {h : gw_H} {n : Nat} {thr : Int32} {o : Nat → Int64} (hI : INV h n thr o) (a b : Int32) : PAIR l K h n mL_vote hhL_vote mX5_vote [.ref 0, .int a, .int b, .ref 61] [.ref 40, .int a, .int b] := by
  obtain ⟨hn62, h61, wd, sk, vt, ti, fa, st, ws, rc, dy, mc, tch, frs, ln, lds, rws, frx, hos, chs, dgs, cs, hC, hX, hM, hG⟩ := hI
  obtain ⟨r0, f0, f1, f2, f3, f4, f5, ⟨tf, f6⟩, f7, f8, ⟨owd, osk, ovt, oti, ofa, otf, ost, ows, orc, ody, t0, t1, t2, t3, t4, t5, t6, t7, t8⟩, ⟨pl, mv, ma, sn, cm, rr, u0, u1, u2, u3, u4⟩, fl, fli⟩ := id hC
  obtain ⟨len, ady, co, dg, rw_, go, we, avt, ati, afa, ast, m0, q46, q47, q48, q49, q50, q56, q57, q58, q59, q60⟩ := id hX
  obtain ⟨m41, m42, m43, m44, m45, s0, s1, s2, s3, s4⟩ := id hM
  obtain ⟨hrc, hm5, hsi, hvp, hsk, hln, hlk, hv, hlo⟩ := id hG
  have hso : ∀ r, r < rc → seatOK (st r) := fun r hr => (hsi r hr).1
  have hl : ∀ k c, k < mc → c = 25 + 3 * k → h c = oB 0 [.ref (c + 1), .ref (c + 2), .int (nI (ln k)), .int (nI (lds k)), .int (rws k), .int (frx k), .int (hos k)] ∧ h (c + 1) = aI 12 (chs k) ∧ h (c + 2) = aI 6 (dgs k) := fun k c hk hc => fli k c (by omega) hc
  have hmc : ∀ m, m < mc → ln m ≤ 12 ∧ codI (chM cs ln m) (crM (chM cs ln m) (ln m) * ln m) = nI 1865 := fun m hm => ⟨hln m (by omega), (hlo m (by omega)).2.2.2⟩
  rcases pk_ix a (n := rc) (by omega) with h1 | h1 | ⟨a, ha, rfl⟩
  · refine ⟨1, _, kL_vote hst r0 (kX3_vote_r hst r0 f0 (Or.inl h1)) (fun _ _ _ q => q.elim) (fun E h' n' q => Or.inl q.1), ?_⟩
    rintro rv h' n' (⟨E, ⟨rfl, rfl, rfl⟩, hdx⟩ | ⟨v, o2, hw, q, -⟩)
    · have hrv : rv = some (.int (nI 1)) := by
        rcases hdx with ⟨z, w⟩ | ⟨z, w⟩
        · exact w
        · exact absurd z (by decide)
      refine ⟨hrv, rfl, by decide, 0, 0, _, o, by decide, by decide, h61, ⟨_, m0⟩, kX5_vote_r hst m0 m41 m42 m43 m44 m45 q46 q47 q48 q49 q50 s0 s1 s2 s3 s4 q56 q57 q58 q59 q60 (hn62) (hrc) (Or.inl h1), ?_⟩
      intro rv2 h'' n'' hp
      exact ⟨_, hp.1.symm, Nat.le_of_eq hp.2.1, hp.fin hC (fun _ _ => rfl) hM h61 hG hn62, fun z => absurd z (by decide)⟩
    · exact q.elim
  · refine ⟨1, _, kL_vote hst r0 (kX3_vote_r hst r0 f0 (Or.inr h1)) (fun _ _ _ q => q.elim) (fun E h' n' q => Or.inl q.1), ?_⟩
    rintro rv h' n' (⟨E, ⟨rfl, rfl, rfl⟩, hdx⟩ | ⟨v, o2, hw, q, -⟩)
    · have hrv : rv = some (.int (nI 1)) := by
        rcases hdx with ⟨z, w⟩ | ⟨z, w⟩
        · exact w
        · exact absurd z (by decide)
      refine ⟨hrv, rfl, by decide, 0, 0, _, o, by decide, by decide, h61, ⟨_, m0⟩, kX5_vote_r hst m0 m41 m42 m43 m44 m45 q46 q47 q48 q49 q50 s0 s1 s2 s3 s4 q56 q57 q58 q59 q60 (hn62) (hrc) (Or.inr h1), ?_⟩
      intro rv2 h'' n'' hp
      exact ⟨_, hp.1.symm, Nat.le_of_eq hp.2.1, hp.fin hC (fun _ _ => rfl) hM h61 hG hn62, fun z => absurd z (by decide)⟩
    · exact q.elim
  · rcases Classical.em (b < -99 ∨ nI 99 < b) with h2 | h2
    · refine ⟨2, _, kL_vote hst r0 (kX3_vote_m hst r0 f0 (hrc) (ha) (h2)) (fun _ _ _ q => q.elim) (fun E h' n' q => Or.inr (q.1)), ?_⟩
      rintro rv h' n' (⟨E, ⟨rfl, rfl, rfl⟩, hdx⟩ | ⟨v, o2, hw, q, -⟩)
      · have hrv : rv = some (.int (nI 2)) := by
          rcases hdx with ⟨z, w⟩ | ⟨z, w⟩
          · exact absurd z (by decide)
          · exact w
        refine ⟨hrv, rfl, by decide, 0, 0, _, o, by decide, by decide, h61, ⟨_, m0⟩, kX5_vote_m hst m0 m41 m42 m43 m44 m45 q46 q47 q48 q49 q50 s0 s1 s2 s3 s4 q56 q57 q58 q59 q60 (hn62) (hrc) (ha) (h2), ?_⟩
        intro rv2 h'' n'' hp
        exact ⟨_, hp.1.symm, Nat.le_of_eq hp.2.1, hp.fin hC (fun _ _ => rfl) hM h61 hG hn62, fun z => absurd z (by decide)⟩
      · exact q.elim
    · refine ⟨0, _, kL_vote hst r0 (kX3_vote hst r0 f0 f3 (hrc) (ha) (h2)) (fun rv h' n' q => ⟨_, o, q.1, by rw [q.2.1]; exact (hs_ne (by omega)).trans (h61)⟩) (fun _ _ _ q => q.elim), ?_⟩
      rintro rv h' n' (⟨E, q, -⟩ | ⟨v, o2, hw, q, ho2, rfl, rfl⟩)
      · exact q.elim
      · obtain ⟨qv, qh, qn⟩ := q
        subst qn
        have hC2 := (hC.s_vt _).tr40 (fun j _ => congrFun qh j)
        have tr : ∀ j, 40 ≤ j → j ≤ 60 → (hs hw 61 (aJ 1 (vp_updL o2 0 v.toInt64))) j = h j := fun j h1 h2 => (hs_ne (by omega)).trans ((congrFun qh j).trans ((hs_ne (by omega)).trans (rfl)))
        have hC3 := hC2.tr40 (h' := hs hw 61 (aJ 1 (vp_updL o2 0 v.toInt64))) (fun j hj => hs_ne (by omega))
        have hM3 := hM.tr (h' := hs hw 61 (aJ 1 (vp_updL o2 0 v.toInt64))) (fun j hj => tr j (by omega) (by omega))
        refine ⟨rfl, rfl, by decide, 0, 0, _, _, by decide, by decide, hs_eq _ _ _, ⟨_, (tr 40 (by decide) (by decide)).trans m0⟩, kX5_vote hst ((tr 40 (by decide) (by decide)).trans m0) ((tr 41 (by decide) (by decide)).trans m41) ((tr 42 (by decide) (by decide)).trans m42) ((tr 43 (by decide) (by decide)).trans m43) ((tr 44 (by decide) (by decide)).trans m44) ((tr 45 (by decide) (by decide)).trans m45) ((tr 46 (by decide) (by decide)).trans q46) ((tr 47 (by decide) (by decide)).trans q47) ((tr 48 (by decide) (by decide)).trans q48) ((tr 49 (by decide) (by decide)).trans q49) ((tr 50 (by decide) (by decide)).trans q50) ((tr 51 (by decide) (by decide)).trans s0) ((tr (51 + 1) (by decide) (by decide)).trans s1) ((tr (51 + 2) (by decide) (by decide)).trans s2) ((tr (51 + 3) (by decide) (by decide)).trans s3) ((tr (51 + 4) (by decide) (by decide)).trans s4) ((tr 56 (by decide) (by decide)).trans q56) ((tr (56 + 1) (by decide) (by decide)).trans q57) ((tr (56 + 2) (by decide) (by decide)).trans q58) ((tr (56 + 3) (by decide) (by decide)).trans q59) ((tr (56 + 4) (by decide) (by decide)).trans q60) (hn62) (hrc) (ha) (h2), ?_⟩
        intro rv2 h'' n'' hp
        have hf := hp.fin hC3 (fun j hj => (hs_ne (by omega)).trans (rfl)) (hM3.s_vt _) ((hs_ne (by omega)).trans (hs_eq _ _ _)) (⟨hrc, hm5, hsi, vset hvp (clamp_pos _), hsk, hln, hlk, hv, hlo⟩) (by omega)
        exact ⟨_, hp.1.symm, by have := hp.2.1; omega, hf, fun _ => pk_uLs.trans (congrArg Int32.toInt64 ((Value.int.inj (Option.some.inj qv)).trans (rfl)))⟩
set_option maxRecDepth 20000 in
theorem pr_seat {l : Launch} {K : gw_K} (hst : l.stackTraces = false) {h : gw_H} {n : Nat} {thr : Int32} {o : Nat → Int64} (hI : INV h n thr o) (a b d : Int32) : PAIR l K h n mL_seat hhL_seat mX5_seat [.ref 0, .int a, .int b, .int d, .ref 61] [.ref 40, .int a, .int b, .int d] := by
  obtain ⟨hn62, h61, wd, sk, vt, ti, fa, st, ws, rc, dy, mc, tch, frs, ln, lds, rws, frx, hos, chs, dgs, cs, hC, hX, hM, hG⟩ := hI
  obtain ⟨r0, f0, f1, f2, f3, f4, f5, ⟨tf, f6⟩, f7, f8, ⟨owd, osk, ovt, oti, ofa, otf, ost, ows, orc, ody, t0, t1, t2, t3, t4, t5, t6, t7, t8⟩, ⟨pl, mv, ma, sn, cm, rr, u0, u1, u2, u3, u4⟩, fl, fli⟩ := id hC
  obtain ⟨len, ady, co, dg, rw_, go, we, avt, ati, afa, ast, m0, q46, q47, q48, q49, q50, q56, q57, q58, q59, q60⟩ := id hX
  obtain ⟨m41, m42, m43, m44, m45, s0, s1, s2, s3, s4⟩ := id hM
  obtain ⟨hrc, hm5, hsi, hvp, hsk, hln, hlk, hv, hlo⟩ := id hG
  have hso : ∀ r, r < rc → seatOK (st r) := fun r hr => (hsi r hr).1
  have hl : ∀ k c, k < mc → c = 25 + 3 * k → h c = oB 0 [.ref (c + 1), .ref (c + 2), .int (nI (ln k)), .int (nI (lds k)), .int (rws k), .int (frx k), .int (hos k)] ∧ h (c + 1) = aI 12 (chs k) ∧ h (c + 2) = aI 6 (dgs k) := fun k c hk hc => fli k c (by omega) hc
  have hmc : ∀ m, m < mc → ln m ≤ 12 ∧ codI (chM cs ln m) (crM (chM cs ln m) (ln m) * ln m) = nI 1865 := fun m hm => ⟨hln m (by omega), (hlo m (by omega)).2.2.2⟩
  rcases pk_ix a (n := 3) (by omega) with h1 | h1 | ⟨a, ha, rfl⟩
  · refine ⟨1, _, kL_seat hst r0 (kX3_seat_s hst r0 f0 (Or.inl (Or.inl h1))) (fun _ _ _ q => q.elim) (fun E h' n' q => q.1), ?_⟩
    rintro rv h' n' (⟨E, ⟨rfl, rfl, rfl⟩, hdx⟩ | ⟨v, o2, hw, q, -⟩)
    · have hrv : rv = some (.int (nI 1)) := hdx.2
      refine ⟨hrv, rfl, by decide, 0, 0, _, o, by decide, by decide, h61, ⟨_, m0⟩, kX5_seat_s hst m0 m41 m42 m43 m44 m45 q46 q47 q48 q49 q50 s0 s1 s2 s3 s4 q56 q57 q58 q59 q60 (hn62) (Or.inl (Or.inl h1)), ?_⟩
      intro rv2 h'' n'' hp
      exact ⟨_, hp.1.symm, Nat.le_of_eq hp.2.1, hp.fin hC (fun _ _ => rfl) hM h61 hG hn62, fun z => absurd z (by decide)⟩
    · exact q.elim
  · refine ⟨1, _, kL_seat hst r0 (kX3_seat_s hst r0 f0 (Or.inl (Or.inr h1))) (fun _ _ _ q => q.elim) (fun E h' n' q => q.1), ?_⟩
    rintro rv h' n' (⟨E, ⟨rfl, rfl, rfl⟩, hdx⟩ | ⟨v, o2, hw, q, -⟩)
    · have hrv : rv = some (.int (nI 1)) := hdx.2
      refine ⟨hrv, rfl, by decide, 0, 0, _, o, by decide, by decide, h61, ⟨_, m0⟩, kX5_seat_s hst m0 m41 m42 m43 m44 m45 q46 q47 q48 q49 q50 s0 s1 s2 s3 s4 q56 q57 q58 q59 q60 (hn62) (Or.inl (Or.inr h1)), ?_⟩
      intro rv2 h'' n'' hp
      exact ⟨_, hp.1.symm, Nat.le_of_eq hp.2.1, hp.fin hC (fun _ _ => rfl) hM h61 hG hn62, fun z => absurd z (by decide)⟩
    · exact q.elim
  · rcases pk_ix b (n := 6) (by omega) with h1 | h1 | ⟨b, hb, rfl⟩
    · refine ⟨1, _, kL_seat hst r0 (kX3_seat_s hst r0 f0 (Or.inr (Or.inl h1))) (fun _ _ _ q => q.elim) (fun E h' n' q => q.1), ?_⟩
      rintro rv h' n' (⟨E, ⟨rfl, rfl, rfl⟩, hdx⟩ | ⟨v, o2, hw, q, -⟩)
      · have hrv : rv = some (.int (nI 1)) := hdx.2
        refine ⟨hrv, rfl, by decide, 0, 0, _, o, by decide, by decide, h61, ⟨_, m0⟩, kX5_seat_s hst m0 m41 m42 m43 m44 m45 q46 q47 q48 q49 q50 s0 s1 s2 s3 s4 q56 q57 q58 q59 q60 (hn62) (Or.inr (Or.inl h1)), ?_⟩
        intro rv2 h'' n'' hp
        exact ⟨_, hp.1.symm, Nat.le_of_eq hp.2.1, hp.fin hC (fun _ _ => rfl) hM h61 hG hn62, fun z => absurd z (by decide)⟩
      · exact q.elim
    · refine ⟨1, _, kL_seat hst r0 (kX3_seat_s hst r0 f0 (Or.inr (Or.inr h1))) (fun _ _ _ q => q.elim) (fun E h' n' q => q.1), ?_⟩
      rintro rv h' n' (⟨E, ⟨rfl, rfl, rfl⟩, hdx⟩ | ⟨v, o2, hw, q, -⟩)
      · have hrv : rv = some (.int (nI 1)) := hdx.2
        refine ⟨hrv, rfl, by decide, 0, 0, _, o, by decide, by decide, h61, ⟨_, m0⟩, kX5_seat_s hst m0 m41 m42 m43 m44 m45 q46 q47 q48 q49 q50 s0 s1 s2 s3 s4 q56 q57 q58 q59 q60 (hn62) (Or.inr (Or.inr h1)), ?_⟩
        intro rv2 h'' n'' hp
        exact ⟨_, hp.1.symm, Nat.le_of_eq hp.2.1, hp.fin hC (fun _ _ => rfl) hM h61 hG hn62, fun z => absurd z (by decide)⟩
      · exact q.elim
    · rcases pk_ix d (n := 4) (by omega) with h1 | h1 | ⟨d, hd, rfl⟩
      · refine ⟨1, _, kL_seat hst r0 (kX3_seat_w hst r0 f0 (ha) (hb) (Or.inl h1)) (fun _ _ _ q => q.elim) (fun E h' n' q => q.1), ?_⟩
        rintro rv h' n' (⟨E, ⟨rfl, rfl, rfl⟩, hdx⟩ | ⟨v, o2, hw, q, -⟩)
        · have hrv : rv = some (.int (nI 1)) := hdx.2
          refine ⟨hrv, rfl, by decide, 0, 0, _, o, by decide, by decide, h61, ⟨_, m0⟩, kX5_seat_w hst m0 m41 m42 m43 m44 m45 q46 q47 q48 q49 q50 s0 s1 s2 s3 s4 q56 q57 q58 q59 q60 (hn62) (ha) (hb) (Or.inl h1), ?_⟩
          intro rv2 h'' n'' hp
          exact ⟨_, hp.1.symm, Nat.le_of_eq hp.2.1, hp.fin hC (fun _ _ => rfl) hM h61 hG hn62, fun z => absurd z (by decide)⟩
        · exact q.elim
      · refine ⟨1, _, kL_seat hst r0 (kX3_seat_w hst r0 f0 (ha) (hb) (Or.inr h1)) (fun _ _ _ q => q.elim) (fun E h' n' q => q.1), ?_⟩
        rintro rv h' n' (⟨E, ⟨rfl, rfl, rfl⟩, hdx⟩ | ⟨v, o2, hw, q, -⟩)
        · have hrv : rv = some (.int (nI 1)) := hdx.2
          refine ⟨hrv, rfl, by decide, 0, 0, _, o, by decide, by decide, h61, ⟨_, m0⟩, kX5_seat_w hst m0 m41 m42 m43 m44 m45 q46 q47 q48 q49 q50 s0 s1 s2 s3 s4 q56 q57 q58 q59 q60 (hn62) (ha) (hb) (Or.inr h1), ?_⟩
          intro rv2 h'' n'' hp
          exact ⟨_, hp.1.symm, Nat.le_of_eq hp.2.1, hp.fin hC (fun _ _ => rfl) hM h61 hG hn62, fun z => absurd z (by decide)⟩
        · exact q.elim
      · refine ⟨0, _, kL_seat hst r0 (kX3_seat hst r0 f0 f8 (ha) (hb) (hd)) (fun rv h' n' q => ⟨_, o, q.1, by rw [q.2.1]; exact (hs_ne (by omega)).trans (h61)⟩) (fun _ _ _ q => q.elim), ?_⟩
        rintro rv h' n' (⟨E, q, -⟩ | ⟨v, o2, hw, q, ho2, rfl, rfl⟩)
        · exact q.elim
        · obtain ⟨qv, qh, qn⟩ := q
          subst qn
          have hC2 := (hC.s_ws _).tr40 (fun j _ => congrFun qh j)
          have tr : ∀ j, 40 ≤ j → j ≤ 60 → (hs hw 61 (aJ 1 (vp_updL o2 0 v.toInt64))) j = h j := fun j h1 h2 => (hs_ne (by omega)).trans ((congrFun qh j).trans ((hs_ne (by omega)).trans (rfl)))
          have hC3 := hC2.tr40 (h' := hs hw 61 (aJ 1 (vp_updL o2 0 v.toInt64))) (fun j hj => hs_ne (by omega))
          have hM3 := hM.tr (h' := hs hw 61 (aJ 1 (vp_updL o2 0 v.toInt64))) (fun j hj => tr j (by omega) (by omega))
          refine ⟨rfl, rfl, by decide, 0, 0, _, _, by decide, by decide, hs_eq _ _ _, ⟨_, (tr 40 (by decide) (by decide)).trans m0⟩, kX5_seat hst ((tr 40 (by decide) (by decide)).trans m0) ((tr 41 (by decide) (by decide)).trans m41) ((tr 42 (by decide) (by decide)).trans m42) ((tr 43 (by decide) (by decide)).trans m43) ((tr 44 (by decide) (by decide)).trans m44) ((tr 45 (by decide) (by decide)).trans m45) ((tr 46 (by decide) (by decide)).trans q46) ((tr 47 (by decide) (by decide)).trans q47) ((tr 48 (by decide) (by decide)).trans q48) ((tr 49 (by decide) (by decide)).trans q49) ((tr 50 (by decide) (by decide)).trans q50) ((tr 51 (by decide) (by decide)).trans s0) ((tr (51 + 1) (by decide) (by decide)).trans s1) ((tr (51 + 2) (by decide) (by decide)).trans s2) ((tr (51 + 3) (by decide) (by decide)).trans s3) ((tr (51 + 4) (by decide) (by decide)).trans s4) ((tr 56 (by decide) (by decide)).trans q56) ((tr (56 + 1) (by decide) (by decide)).trans q57) ((tr (56 + 2) (by decide) (by decide)).trans q58) ((tr (56 + 3) (by decide) (by decide)).trans q59) ((tr (56 + 4) (by decide) (by decide)).trans q60) (hn62) (ha) (hb) (hd), ?_⟩
          intro rv2 h'' n'' hp
          rw [show 6 * a + b = a * 6 + b by omega] at hp
          have hf := hp.fin hC3 (fun j hj => (hs_ne (by omega)).trans (rfl)) (hM3.s_ws _) ((hs_ne (by omega)).trans (hs_eq _ _ _)) (hG) (by omega)
          exact ⟨_, hp.1.symm, by have := hp.2.1; omega, hf, fun _ => pk_uLs.trans (congrArg Int32.toInt64 ((Value.int.inj (Option.some.inj qv)).trans (rfl)))⟩
set_option maxRecDepth 20000 in
theorem pr_elect {l : Launch} {K : gw_K} (hst : l.stackTraces = false) {h : gw_H} {n : Nat} {thr : Int32} {o : Nat → Int64} (hI : INV h n thr o) (a : Int32) : PAIR l K h n mL_elect hhL_elect mX5_elect [.ref 0, .int a, .ref 61] [.ref 40, .int a] := by
  obtain ⟨hn62, h61, wd, sk, vt, ti, fa, st, ws, rc, dy, mc, tch, frs, ln, lds, rws, frx, hos, chs, dgs, cs, hC, hX, hM, hG⟩ := hI
  obtain ⟨r0, f0, f1, f2, f3, f4, f5, ⟨tf, f6⟩, f7, f8, ⟨owd, osk, ovt, oti, ofa, otf, ost, ows, orc, ody, t0, t1, t2, t3, t4, t5, t6, t7, t8⟩, ⟨pl, mv, ma, sn, cm, rr, u0, u1, u2, u3, u4⟩, fl, fli⟩ := id hC
  obtain ⟨len, ady, co, dg, rw_, go, we, avt, ati, afa, ast, m0, q46, q47, q48, q49, q50, q56, q57, q58, q59, q60⟩ := id hX
  obtain ⟨m41, m42, m43, m44, m45, s0, s1, s2, s3, s4⟩ := id hM
  obtain ⟨hrc, hm5, hsi, hvp, hsk, hln, hlk, hv, hlo⟩ := id hG
  have hso : ∀ r, r < rc → seatOK (st r) := fun r hr => (hsi r hr).1
  have hl : ∀ k c, k < mc → c = 25 + 3 * k → h c = oB 0 [.ref (c + 1), .ref (c + 2), .int (nI (ln k)), .int (nI (lds k)), .int (rws k), .int (frx k), .int (hos k)] ∧ h (c + 1) = aI 12 (chs k) ∧ h (c + 2) = aI 6 (dgs k) := fun k c hk hc => fli k c (by omega) hc
  have hmc : ∀ m, m < mc → ln m ≤ 12 ∧ codI (chM cs ln m) (crM (chM cs ln m) (ln m) * ln m) = nI 1865 := fun m hm => ⟨hln m (by omega), (hlo m (by omega)).2.2.2⟩
  rcases pk_ix a (n := 3) (by omega) with h1 | h1 | ⟨a, ha, rfl⟩
  · refine ⟨1, _, kL_elect hst r0 (kX3_elect_b hst r0 f0 (Or.inl h1)) (fun _ _ _ q => q.elim) (fun E h' n' q => q.1), ?_⟩
    rintro rv h' n' (⟨E, ⟨rfl, rfl, rfl⟩, hdx⟩ | ⟨v, o2, hw, q, -⟩)
    · have hrv : rv = some (.int (nI 1)) := hdx.2
      refine ⟨hrv, rfl, by decide, 0, 0, _, o, by decide, by decide, h61, ⟨_, m0⟩, kX5_elect_b hst m0 m41 m42 m43 m44 m45 q46 q47 q48 q49 q50 s0 s1 s2 s3 s4 q56 q57 q58 q59 q60 (hn62) (Or.inl h1), ?_⟩
      intro rv2 h'' n'' hp
      exact ⟨_, hp.1.symm, Nat.le_of_eq hp.2.1, hp.fin hC (fun _ _ => rfl) hM h61 hG hn62, fun z => absurd z (by decide)⟩
    · exact q.elim
  · refine ⟨1, _, kL_elect hst r0 (kX3_elect_b hst r0 f0 (Or.inr h1)) (fun _ _ _ q => q.elim) (fun E h' n' q => q.1), ?_⟩
    rintro rv h' n' (⟨E, ⟨rfl, rfl, rfl⟩, hdx⟩ | ⟨v, o2, hw, q, -⟩)
    · have hrv : rv = some (.int (nI 1)) := hdx.2
      refine ⟨hrv, rfl, by decide, 0, 0, _, o, by decide, by decide, h61, ⟨_, m0⟩, kX5_elect_b hst m0 m41 m42 m43 m44 m45 q46 q47 q48 q49 q50 s0 s1 s2 s3 s4 q56 q57 q58 q59 q60 (hn62) (Or.inr h1), ?_⟩
      intro rv2 h'' n'' hp
      exact ⟨_, hp.1.symm, Nat.le_of_eq hp.2.1, hp.fin hC (fun _ _ => rfl) hM h61 hG hn62, fun z => absurd z (by decide)⟩
    · exact q.elim
  · refine ⟨0, _, kL_elect hst r0 (kX3_elect hst r0 f0 f1 f3 f7 f8 (hrc) (ha)) (fun rv h' n' q => ⟨_, o, q.1, by rw [q.2.1]; exact (hs_ne (by omega)).trans (h61)⟩) (fun _ _ _ q => q.elim), ?_⟩
    rintro rv h' n' (⟨E, q, -⟩ | ⟨v, o2, hw, q, ho2, rfl, rfl⟩)
    · exact q.elim
    · obtain ⟨qv, qh, qn⟩ := q
      subst qn
      have hC2 := (hC.s_st _).tr40 (fun j _ => congrFun qh j)
      have tr : ∀ j, 40 ≤ j → j ≤ 60 → (hs hw 61 (aJ 1 (vp_updL o2 0 v.toInt64))) j = h j := fun j h1 h2 => (hs_ne (by omega)).trans ((congrFun qh j).trans ((hs_ne (by omega)).trans (rfl)))
      have hC3 := hC2.tr40 (h' := hs hw 61 (aJ 1 (vp_updL o2 0 v.toInt64))) (fun j hj => hs_ne (by omega))
      have hM3 := hM.tr (h' := hs hw 61 (aJ 1 (vp_updL o2 0 v.toInt64))) (fun j hj => tr j (by omega) (by omega))
      refine ⟨rfl, rfl, by decide, 0, 0, _, _, by decide, by decide, hs_eq _ _ _, ⟨_, (tr 40 (by decide) (by decide)).trans m0⟩, kX5_elect hst ((tr 40 (by decide) (by decide)).trans m0) ((tr 41 (by decide) (by decide)).trans m41) ((tr 42 (by decide) (by decide)).trans m42) ((tr 43 (by decide) (by decide)).trans m43) ((tr 44 (by decide) (by decide)).trans m44) ((tr 45 (by decide) (by decide)).trans m45) ((tr 46 (by decide) (by decide)).trans q46) ((tr 47 (by decide) (by decide)).trans q47) ((tr 48 (by decide) (by decide)).trans q48) ((tr 49 (by decide) (by decide)).trans q49) ((tr 50 (by decide) (by decide)).trans q50) ((tr 51 (by decide) (by decide)).trans s0) ((tr (51 + 1) (by decide) (by decide)).trans s1) ((tr (51 + 2) (by decide) (by decide)).trans s2) ((tr (51 + 3) (by decide) (by decide)).trans s3) ((tr (51 + 4) (by decide) (by decide)).trans s4) ((tr 56 (by decide) (by decide)).trans q56) ((tr (56 + 1) (by decide) (by decide)).trans q57) ((tr (56 + 2) (by decide) (by decide)).trans q58) ((tr (56 + 3) (by decide) (by decide)).trans q59) ((tr (56 + 4) (by decide) (by decide)).trans q60) (hn62) (hrc) (ha) (hsi) (hvp), ?_⟩
      intro rv2 h'' n'' hp
      have hf := hp.fin hC3 (fun j hj => (hs_ne (by omega)).trans (rfl)) (hM3.s_st _) ((hs_ne (by omega)).trans (hs_eq _ _ _)) (⟨hrc, hm5, elB_I hrc ha hsi, hvp, hsk, hln, hlk, hv, hlo⟩) (by omega)
      exact ⟨_, hp.1.symm, by have := hp.2.1; omega, hf, fun _ => pk_uLs.trans (congrArg Int32.toInt64 ((Value.int.inj (Option.some.inj qv)).trans (rfl)))⟩
set_option maxRecDepth 20000 in
theorem pr_put {l : Launch} {K : gw_K} (hst : l.stackTraces = false) {h : gw_H} {n : Nat} {thr : Int32} {o : Nat → Int64} (hI : INV h n thr o) (a b d : Int32) : PAIR l K h n mL_put hhL_put mX5_put [.ref 0, .int a, .int b, .int d, .ref 61] [.ref 40, .int a, .int b, .int d] := by
  obtain ⟨hn62, h61, wd, sk, vt, ti, fa, st, ws, rc, dy, mc, tch, frs, ln, lds, rws, frx, hos, chs, dgs, cs, hC, hX, hM, hG⟩ := hI
  obtain ⟨r0, f0, f1, f2, f3, f4, f5, ⟨tf, f6⟩, f7, f8, ⟨owd, osk, ovt, oti, ofa, otf, ost, ows, orc, ody, t0, t1, t2, t3, t4, t5, t6, t7, t8⟩, ⟨pl, mv, ma, sn, cm, rr, u0, u1, u2, u3, u4⟩, fl, fli⟩ := id hC
  obtain ⟨len, ady, co, dg, rw_, go, we, avt, ati, afa, ast, m0, q46, q47, q48, q49, q50, q56, q57, q58, q59, q60⟩ := id hX
  obtain ⟨m41, m42, m43, m44, m45, s0, s1, s2, s3, s4⟩ := id hM
  obtain ⟨hrc, hm5, hsi, hvp, hsk, hln, hlk, hv, hlo⟩ := id hG
  have hso : ∀ r, r < rc → seatOK (st r) := fun r hr => (hsi r hr).1
  have hl : ∀ k c, k < mc → c = 25 + 3 * k → h c = oB 0 [.ref (c + 1), .ref (c + 2), .int (nI (ln k)), .int (nI (lds k)), .int (rws k), .int (frx k), .int (hos k)] ∧ h (c + 1) = aI 12 (chs k) ∧ h (c + 2) = aI 6 (dgs k) := fun k c hk hc => fli k c (by omega) hc
  have hmc : ∀ m, m < mc → ln m ≤ 12 ∧ codI (chM cs ln m) (crM (chM cs ln m) (ln m) * ln m) = nI 1865 := fun m hm => ⟨hln m (by omega), (hlo m (by omega)).2.2.2⟩
  rcases pk_ix a (n := 3) (by omega) with h1 | h1 | ⟨a, ha, rfl⟩
  · refine ⟨1, _, kL_put hst r0 (kX3_put_s hst r0 f0 (Or.inl (Or.inl h1))) (fun _ _ _ q => q.elim) (fun E h' n' q => Or.inl q.1), ?_⟩
    rintro rv h' n' (⟨E, ⟨rfl, rfl, rfl⟩, hdx⟩ | ⟨v, o2, hw, q, -⟩)
    · have hrv : rv = some (.int (nI 1)) := by
        rcases hdx with ⟨z, w⟩ | ⟨z, w⟩
        · exact w
        · exact absurd z (by decide)
      refine ⟨hrv, rfl, by decide, 0, 0, _, o, by decide, by decide, h61, ⟨_, m0⟩, kX5_put_s hst m0 m41 m42 m43 m44 m45 q46 q47 q48 q49 q50 s0 s1 s2 s3 s4 q56 q57 q58 q59 q60 (hn62) (Or.inl (Or.inl h1)), ?_⟩
      intro rv2 h'' n'' hp
      exact ⟨_, hp.1.symm, Nat.le_of_eq hp.2.1, hp.fin hC (fun _ _ => rfl) hM h61 hG hn62, fun z => absurd z (by decide)⟩
    · exact q.elim
  · refine ⟨1, _, kL_put hst r0 (kX3_put_s hst r0 f0 (Or.inl (Or.inr h1))) (fun _ _ _ q => q.elim) (fun E h' n' q => Or.inl q.1), ?_⟩
    rintro rv h' n' (⟨E, ⟨rfl, rfl, rfl⟩, hdx⟩ | ⟨v, o2, hw, q, -⟩)
    · have hrv : rv = some (.int (nI 1)) := by
        rcases hdx with ⟨z, w⟩ | ⟨z, w⟩
        · exact w
        · exact absurd z (by decide)
      refine ⟨hrv, rfl, by decide, 0, 0, _, o, by decide, by decide, h61, ⟨_, m0⟩, kX5_put_s hst m0 m41 m42 m43 m44 m45 q46 q47 q48 q49 q50 s0 s1 s2 s3 s4 q56 q57 q58 q59 q60 (hn62) (Or.inl (Or.inr h1)), ?_⟩
      intro rv2 h'' n'' hp
      exact ⟨_, hp.1.symm, Nat.le_of_eq hp.2.1, hp.fin hC (fun _ _ => rfl) hM h61 hG hn62, fun z => absurd z (by decide)⟩
    · exact q.elim
  · rcases pk_ix b (n := 6) (by omega) with h1 | h1 | ⟨b, hb, rfl⟩
    · refine ⟨1, _, kL_put hst r0 (kX3_put_s hst r0 f0 (Or.inr (Or.inl h1))) (fun _ _ _ q => q.elim) (fun E h' n' q => Or.inl q.1), ?_⟩
      rintro rv h' n' (⟨E, ⟨rfl, rfl, rfl⟩, hdx⟩ | ⟨v, o2, hw, q, -⟩)
      · have hrv : rv = some (.int (nI 1)) := by
          rcases hdx with ⟨z, w⟩ | ⟨z, w⟩
          · exact w
          · exact absurd z (by decide)
        refine ⟨hrv, rfl, by decide, 0, 0, _, o, by decide, by decide, h61, ⟨_, m0⟩, kX5_put_s hst m0 m41 m42 m43 m44 m45 q46 q47 q48 q49 q50 s0 s1 s2 s3 s4 q56 q57 q58 q59 q60 (hn62) (Or.inr (Or.inl h1)), ?_⟩
        intro rv2 h'' n'' hp
        exact ⟨_, hp.1.symm, Nat.le_of_eq hp.2.1, hp.fin hC (fun _ _ => rfl) hM h61 hG hn62, fun z => absurd z (by decide)⟩
      · exact q.elim
    · refine ⟨1, _, kL_put hst r0 (kX3_put_s hst r0 f0 (Or.inr (Or.inr h1))) (fun _ _ _ q => q.elim) (fun E h' n' q => Or.inl q.1), ?_⟩
      rintro rv h' n' (⟨E, ⟨rfl, rfl, rfl⟩, hdx⟩ | ⟨v, o2, hw, q, -⟩)
      · have hrv : rv = some (.int (nI 1)) := by
          rcases hdx with ⟨z, w⟩ | ⟨z, w⟩
          · exact w
          · exact absurd z (by decide)
        refine ⟨hrv, rfl, by decide, 0, 0, _, o, by decide, by decide, h61, ⟨_, m0⟩, kX5_put_s hst m0 m41 m42 m43 m44 m45 q46 q47 q48 q49 q50 s0 s1 s2 s3 s4 q56 q57 q58 q59 q60 (hn62) (Or.inr (Or.inr h1)), ?_⟩
        intro rv2 h'' n'' hp
        exact ⟨_, hp.1.symm, Nat.le_of_eq hp.2.1, hp.fin hC (fun _ _ => rfl) hM h61 hG hn62, fun z => absurd z (by decide)⟩
      · exact q.elim
    · rcases pk_ix d (n := rc) (by omega) with h1 | h1 | ⟨d, hd, rfl⟩
      · refine ⟨1, _, kL_put hst r0 (kX3_put_r hst r0 f0 (ha) (hb) (Or.inl h1)) (fun _ _ _ q => q.elim) (fun E h' n' q => Or.inl q.1), ?_⟩
        rintro rv h' n' (⟨E, ⟨rfl, rfl, rfl⟩, hdx⟩ | ⟨v, o2, hw, q, -⟩)
        · have hrv : rv = some (.int (nI 1)) := by
            rcases hdx with ⟨z, w⟩ | ⟨z, w⟩
            · exact w
            · exact absurd z (by decide)
          refine ⟨hrv, rfl, by decide, 0, 0, _, o, by decide, by decide, h61, ⟨_, m0⟩, kX5_put_r hst m0 m41 m42 m43 m44 m45 q46 q47 q48 q49 q50 s0 s1 s2 s3 s4 q56 q57 q58 q59 q60 (hn62) (hrc) (ha) (hb) (Or.inl h1), ?_⟩
          intro rv2 h'' n'' hp
          exact ⟨_, hp.1.symm, Nat.le_of_eq hp.2.1, hp.fin hC (fun _ _ => rfl) hM h61 hG hn62, fun z => absurd z (by decide)⟩
        · exact q.elim
      · refine ⟨1, _, kL_put hst r0 (kX3_put_r hst r0 f0 (ha) (hb) (Or.inr h1)) (fun _ _ _ q => q.elim) (fun E h' n' q => Or.inl q.1), ?_⟩
        rintro rv h' n' (⟨E, ⟨rfl, rfl, rfl⟩, hdx⟩ | ⟨v, o2, hw, q, -⟩)
        · have hrv : rv = some (.int (nI 1)) := by
            rcases hdx with ⟨z, w⟩ | ⟨z, w⟩
            · exact w
            · exact absurd z (by decide)
          refine ⟨hrv, rfl, by decide, 0, 0, _, o, by decide, by decide, h61, ⟨_, m0⟩, kX5_put_r hst m0 m41 m42 m43 m44 m45 q46 q47 q48 q49 q50 s0 s1 s2 s3 s4 q56 q57 q58 q59 q60 (hn62) (hrc) (ha) (hb) (Or.inr h1), ?_⟩
          intro rv2 h'' n'' hp
          exact ⟨_, hp.1.symm, Nat.le_of_eq hp.2.1, hp.fin hC (fun _ _ => rfl) hM h61 hG hn62, fun z => absurd z (by decide)⟩
        · exact q.elim
      · rcases Classical.em (atI st rc (nI (a * 6 + b)) = -1 ∧ st d = -1) with hcd | hcd
        · refine ⟨0, _, kL_put hst r0 (kX3_put hst r0 f0 f7 f8 (hrc) (ha) (hb) (hd)) (fun rv h' n' q => ⟨_, o, q.2.1, by rw [q.2.2.1]; exact (hs_ne (by omega)).trans (h61)⟩) (fun _ _ _ q => absurd hcd q.1), ?_⟩
          rintro rv h' n' (⟨E, q, -⟩ | ⟨v, o2, hw, q, ho2, rfl, rfl⟩)
          · exact absurd hcd q.1
          · obtain ⟨qv, qh, qn⟩ := q.2
            subst qn
            have hC2 := (hC.s_st _).tr40 (fun j _ => congrFun qh j)
            have tr : ∀ j, 40 ≤ j → j ≤ 60 → (hs hw 61 (aJ 1 (vp_updL o2 0 v.toInt64))) j = h j := fun j h1 h2 => (hs_ne (by omega)).trans ((congrFun qh j).trans ((hs_ne (by omega)).trans (rfl)))
            have hC3 := hC2.tr40 (h' := hs hw 61 (aJ 1 (vp_updL o2 0 v.toInt64))) (fun j hj => hs_ne (by omega))
            have hM3 := hM.tr (h' := hs hw 61 (aJ 1 (vp_updL o2 0 v.toInt64))) (fun j hj => tr j (by omega) (by omega))
            refine ⟨rfl, rfl, by decide, 0, 0, _, _, by decide, by decide, hs_eq _ _ _, ⟨_, (tr 40 (by decide) (by decide)).trans m0⟩, kX5_put hst ((tr 40 (by decide) (by decide)).trans m0) ((tr 41 (by decide) (by decide)).trans m41) ((tr 42 (by decide) (by decide)).trans m42) ((tr 43 (by decide) (by decide)).trans m43) ((tr 44 (by decide) (by decide)).trans m44) ((tr 45 (by decide) (by decide)).trans m45) ((tr 46 (by decide) (by decide)).trans q46) ((tr 47 (by decide) (by decide)).trans q47) ((tr 48 (by decide) (by decide)).trans q48) ((tr 49 (by decide) (by decide)).trans q49) ((tr 50 (by decide) (by decide)).trans q50) ((tr 51 (by decide) (by decide)).trans s0) ((tr (51 + 1) (by decide) (by decide)).trans s1) ((tr (51 + 2) (by decide) (by decide)).trans s2) ((tr (51 + 3) (by decide) (by decide)).trans s3) ((tr (51 + 4) (by decide) (by decide)).trans s4) ((tr 56 (by decide) (by decide)).trans q56) ((tr (56 + 1) (by decide) (by decide)).trans q57) ((tr (56 + 2) (by decide) (by decide)).trans q58) ((tr (56 + 3) (by decide) (by decide)).trans q59) ((tr (56 + 4) (by decide) (by decide)).trans q60) (hn62) (hrc) (ha) (hb) (hd) (by rw [Nat.mul_comm]; exact hcd), ?_⟩
            intro rv2 h'' n'' hp
            rw [show 6 * a + b = a * 6 + b by omega] at hp
            have hf := hp.fin hC3 (fun j hj => (hs_ne (by omega)).trans (rfl)) (hM3.s_st _) ((hs_ne (by omega)).trans (hs_eq _ _ _)) (⟨hrc, hm5, seatI_put hsi (by omega) fun r hr => at_none rc 0 hcd.1 (by omega) r (Nat.zero_le _) (by omega), hvp, hsk, hln, hlk, hv, hlo⟩) (by omega)
            exact ⟨_, hp.1.symm, by have := hp.2.1; omega, hf, fun _ => pk_uLs.trans (congrArg Int32.toInt64 ((Value.int.inj (Option.some.inj qv)).trans (rfl)))⟩
        · refine ⟨2, _, kL_put hst r0 (kX3_put hst r0 f0 f7 f8 (hrc) (ha) (hb) (hd)) (fun _ _ _ q => absurd q.1 hcd) (fun E h' n' q => Or.inr (q.2.1)), ?_⟩
          rintro rv h' n' (⟨E, ⟨hcx, rfl, rfl, rfl⟩, hdx⟩ | ⟨v, o2, hw, q, -⟩)
          · have hrv : rv = some (.int (nI 2)) := by
              rcases hdx with ⟨z, w⟩ | ⟨z, w⟩
              · exact absurd z (by decide)
              · exact w
            refine ⟨hrv, rfl, by decide, 0, 0, _, o, by decide, by decide, h61, ⟨_, m0⟩, kX5_put_f hst m0 m41 m42 m43 m44 m45 q46 q47 q48 q49 q50 s0 s1 s2 s3 s4 q56 q57 q58 q59 q60 (hn62) (hrc) (ha) (hb) (hd) (by rw [Nat.mul_comm]; exact hcd), ?_⟩
            intro rv2 h'' n'' hp
            exact ⟨_, hp.1.symm, Nat.le_of_eq hp.2.1, hp.fin hC (fun _ _ => rfl) hM h61 hG hn62, fun z => absurd z (by decide)⟩
          · exact absurd q.1 hcd
set_option maxRecDepth 20000 in
theorem pr_leave {l : Launch} {K : gw_K} (hst : l.stackTraces = false) {h : gw_H} {n : Nat} {thr : Int32} {o : Nat → Int64} (hI : INV h n thr o) (a : Int32) : PAIR l K h n mL_leave hhL_leave mX5_leave [.ref 0, .int a, .ref 61] [.ref 40, .int a] := by
  obtain ⟨hn62, h61, wd, sk, vt, ti, fa, st, ws, rc, dy, mc, tch, frs, ln, lds, rws, frx, hos, chs, dgs, cs, hC, hX, hM, hG⟩ := hI
  obtain ⟨r0, f0, f1, f2, f3, f4, f5, ⟨tf, f6⟩, f7, f8, ⟨owd, osk, ovt, oti, ofa, otf, ost, ows, orc, ody, t0, t1, t2, t3, t4, t5, t6, t7, t8⟩, ⟨pl, mv, ma, sn, cm, rr, u0, u1, u2, u3, u4⟩, fl, fli⟩ := id hC
  obtain ⟨len, ady, co, dg, rw_, go, we, avt, ati, afa, ast, m0, q46, q47, q48, q49, q50, q56, q57, q58, q59, q60⟩ := id hX
  obtain ⟨m41, m42, m43, m44, m45, s0, s1, s2, s3, s4⟩ := id hM
  obtain ⟨hrc, hm5, hsi, hvp, hsk, hln, hlk, hv, hlo⟩ := id hG
  have hso : ∀ r, r < rc → seatOK (st r) := fun r hr => (hsi r hr).1
  have hl : ∀ k c, k < mc → c = 25 + 3 * k → h c = oB 0 [.ref (c + 1), .ref (c + 2), .int (nI (ln k)), .int (nI (lds k)), .int (rws k), .int (frx k), .int (hos k)] ∧ h (c + 1) = aI 12 (chs k) ∧ h (c + 2) = aI 6 (dgs k) := fun k c hk hc => fli k c (by omega) hc
  have hmc : ∀ m, m < mc → ln m ≤ 12 ∧ codI (chM cs ln m) (crM (chM cs ln m) (ln m) * ln m) = nI 1865 := fun m hm => ⟨hln m (by omega), (hlo m (by omega)).2.2.2⟩
  rcases pk_ix a (n := rc) (by omega) with h1 | h1 | ⟨a, ha, rfl⟩
  · refine ⟨1, _, kL_leave hst r0 (kX3_leave_r hst r0 f0 (Or.inl h1)) (fun _ _ _ q => q.elim) (fun E h' n' q => Or.inl q.1), ?_⟩
    rintro rv h' n' (⟨E, ⟨rfl, rfl, rfl⟩, hdx⟩ | ⟨v, o2, hw, q, -⟩)
    · have hrv : rv = some (.int (nI 1)) := by
        rcases hdx with ⟨z, w⟩ | ⟨z, w⟩
        · exact w
        · exact absurd z (by decide)
      refine ⟨hrv, rfl, by decide, 0, 0, _, o, by decide, by decide, h61, ⟨_, m0⟩, kX5_leave_r hst m0 m41 m42 m43 m44 m45 q46 q47 q48 q49 q50 s0 s1 s2 s3 s4 q56 q57 q58 q59 q60 (hn62) (hrc) (Or.inl h1), ?_⟩
      intro rv2 h'' n'' hp
      exact ⟨_, hp.1.symm, Nat.le_of_eq hp.2.1, hp.fin hC (fun _ _ => rfl) hM h61 hG hn62, fun z => absurd z (by decide)⟩
    · exact q.elim
  · refine ⟨1, _, kL_leave hst r0 (kX3_leave_r hst r0 f0 (Or.inr h1)) (fun _ _ _ q => q.elim) (fun E h' n' q => Or.inl q.1), ?_⟩
    rintro rv h' n' (⟨E, ⟨rfl, rfl, rfl⟩, hdx⟩ | ⟨v, o2, hw, q, -⟩)
    · have hrv : rv = some (.int (nI 1)) := by
        rcases hdx with ⟨z, w⟩ | ⟨z, w⟩
        · exact w
        · exact absurd z (by decide)
      refine ⟨hrv, rfl, by decide, 0, 0, _, o, by decide, by decide, h61, ⟨_, m0⟩, kX5_leave_r hst m0 m41 m42 m43 m44 m45 q46 q47 q48 q49 q50 s0 s1 s2 s3 s4 q56 q57 q58 q59 q60 (hn62) (hrc) (Or.inr h1), ?_⟩
      intro rv2 h'' n'' hp
      exact ⟨_, hp.1.symm, Nat.le_of_eq hp.2.1, hp.fin hC (fun _ _ => rfl) hM h61 hG hn62, fun z => absurd z (by decide)⟩
    · exact q.elim
  · rcases Classical.em (st a = -1) with hcd | hcd
    · refine ⟨2, _, kL_leave hst r0 (kX3_leave hst r0 f0 f7 (hrc) (ha)) (fun _ _ _ q => absurd hcd q.1) (fun E h' n' q => Or.inr (q.2.1)), ?_⟩
      rintro rv h' n' (⟨E, ⟨hcx, rfl, rfl, rfl⟩, hdx⟩ | ⟨v, o2, hw, q, -⟩)
      · have hrv : rv = some (.int (nI 2)) := by
          rcases hdx with ⟨z, w⟩ | ⟨z, w⟩
          · exact absurd z (by decide)
          · exact w
        refine ⟨hrv, rfl, by decide, 0, 0, _, o, by decide, by decide, h61, ⟨_, m0⟩, kX5_leave_f hst m0 m41 m42 m43 m44 m45 q46 q47 q48 q49 q50 s0 s1 s2 s3 s4 q56 q57 q58 q59 q60 (hn62) (hrc) (ha) (hcd), ?_⟩
        intro rv2 h'' n'' hp
        exact ⟨_, hp.1.symm, Nat.le_of_eq hp.2.1, hp.fin hC (fun _ _ => rfl) hM h61 hG hn62, fun z => absurd z (by decide)⟩
      · exact absurd hcd q.1
    · refine ⟨0, _, kL_leave hst r0 (kX3_leave hst r0 f0 f7 (hrc) (ha)) (fun rv h' n' q => ⟨_, o, q.2.1, by rw [q.2.2.1]; exact (hs_ne (by omega)).trans (h61)⟩) (fun _ _ _ q => absurd q.1 hcd), ?_⟩
      rintro rv h' n' (⟨E, q, -⟩ | ⟨v, o2, hw, q, ho2, rfl, rfl⟩)
      · exact absurd q.1 hcd
      · obtain ⟨qv, qh, qn⟩ := q.2
        subst qn
        have hC2 := (hC.s_st _).tr40 (fun j _ => congrFun qh j)
        have tr : ∀ j, 40 ≤ j → j ≤ 60 → (hs hw 61 (aJ 1 (vp_updL o2 0 v.toInt64))) j = h j := fun j h1 h2 => (hs_ne (by omega)).trans ((congrFun qh j).trans ((hs_ne (by omega)).trans (rfl)))
        have hC3 := hC2.tr40 (h' := hs hw 61 (aJ 1 (vp_updL o2 0 v.toInt64))) (fun j hj => hs_ne (by omega))
        have hM3 := hM.tr (h' := hs hw 61 (aJ 1 (vp_updL o2 0 v.toInt64))) (fun j hj => tr j (by omega) (by omega))
        refine ⟨rfl, rfl, by decide, 0, 0, _, _, by decide, by decide, hs_eq _ _ _, ⟨_, (tr 40 (by decide) (by decide)).trans m0⟩, kX5_leave hst ((tr 40 (by decide) (by decide)).trans m0) ((tr 41 (by decide) (by decide)).trans m41) ((tr 42 (by decide) (by decide)).trans m42) ((tr 43 (by decide) (by decide)).trans m43) ((tr 44 (by decide) (by decide)).trans m44) ((tr 45 (by decide) (by decide)).trans m45) ((tr 46 (by decide) (by decide)).trans q46) ((tr 47 (by decide) (by decide)).trans q47) ((tr 48 (by decide) (by decide)).trans q48) ((tr 49 (by decide) (by decide)).trans q49) ((tr 50 (by decide) (by decide)).trans q50) ((tr 51 (by decide) (by decide)).trans s0) ((tr (51 + 1) (by decide) (by decide)).trans s1) ((tr (51 + 2) (by decide) (by decide)).trans s2) ((tr (51 + 3) (by decide) (by decide)).trans s3) ((tr (51 + 4) (by decide) (by decide)).trans s4) ((tr 56 (by decide) (by decide)).trans q56) ((tr (56 + 1) (by decide) (by decide)).trans q57) ((tr (56 + 2) (by decide) (by decide)).trans q58) ((tr (56 + 3) (by decide) (by decide)).trans q59) ((tr (56 + 4) (by decide) (by decide)).trans q60) (hn62) (hrc) (ha) (hcd), ?_⟩
        intro rv2 h'' n'' hp
        have hf := hp.fin hC3 (fun j hj => (hs_ne (by omega)).trans (rfl)) (hM3.s_st _) ((hs_ne (by omega)).trans (hs_eq _ _ _)) (⟨hrc, hm5, seatI_clear hsi, hvp, hsk, hln, hlk, hv, hlo⟩) (by omega)
        exact ⟨_, hp.1.symm, by have := hp.2.1; omega, hf, fun _ => pk_uLs.trans (congrArg Int32.toInt64 ((Value.int.inj (Option.some.inj qv)).trans (rfl)))⟩
set_option maxRecDepth 20000 in
theorem pr_told {l : Launch} {K : gw_K} (hst : l.stackTraces = false) {h : gw_H} {n : Nat} {thr : Int32} {o : Nat → Int64} (hI : INV h n thr o) (a b : Int32) : PAIR l K h n mL_told hhL_told mX5_told [.ref 0, .int a, .int b, .ref 61] [.ref 40, .int a, .int b] := by
  obtain ⟨hn62, h61, wd, sk, vt, ti, fa, st, ws, rc, dy, mc, tch, frs, ln, lds, rws, frx, hos, chs, dgs, cs, hC, hX, hM, hG⟩ := hI
  obtain ⟨r0, f0, f1, f2, f3, f4, f5, ⟨tf, f6⟩, f7, f8, ⟨owd, osk, ovt, oti, ofa, otf, ost, ows, orc, ody, t0, t1, t2, t3, t4, t5, t6, t7, t8⟩, ⟨pl, mv, ma, sn, cm, rr, u0, u1, u2, u3, u4⟩, fl, fli⟩ := id hC
  obtain ⟨len, ady, co, dg, rw_, go, we, avt, ati, afa, ast, m0, q46, q47, q48, q49, q50, q56, q57, q58, q59, q60⟩ := id hX
  obtain ⟨m41, m42, m43, m44, m45, s0, s1, s2, s3, s4⟩ := id hM
  obtain ⟨hrc, hm5, hsi, hvp, hsk, hln, hlk, hv, hlo⟩ := id hG
  have hso : ∀ r, r < rc → seatOK (st r) := fun r hr => (hsi r hr).1
  have hl : ∀ k c, k < mc → c = 25 + 3 * k → h c = oB 0 [.ref (c + 1), .ref (c + 2), .int (nI (ln k)), .int (nI (lds k)), .int (rws k), .int (frx k), .int (hos k)] ∧ h (c + 1) = aI 12 (chs k) ∧ h (c + 2) = aI 6 (dgs k) := fun k c hk hc => fli k c (by omega) hc
  have hmc : ∀ m, m < mc → ln m ≤ 12 ∧ codI (chM cs ln m) (crM (chM cs ln m) (ln m) * ln m) = nI 1865 := fun m hm => ⟨hln m (by omega), (hlo m (by omega)).2.2.2⟩
  rcases pk_ix a (n := rc) (by omega) with h1 | h1 | ⟨a, ha, rfl⟩
  · refine ⟨1, _, kL_told hst r0 (kX3_told_r hst r0 f0 (Or.inl h1)) (fun _ _ _ q => q.elim) (fun E h' n' q => q.1), ?_⟩
    rintro rv h' n' (⟨E, ⟨rfl, rfl, rfl⟩, hdx⟩ | ⟨v, o2, hw, q, -⟩)
    · have hrv : rv = some (.int (nI 1)) := hdx.2
      refine ⟨hrv, rfl, by decide, 0, 0, _, o, by decide, by decide, h61, ⟨_, m0⟩, kX5_told_r hst m0 m41 m42 m43 m44 m45 q46 q47 q48 q49 q50 s0 s1 s2 s3 s4 q56 q57 q58 q59 q60 (hn62) (hrc) (Or.inl h1), ?_⟩
      intro rv2 h'' n'' hp
      exact ⟨_, hp.1.symm, Nat.le_of_eq hp.2.1, hp.fin hC (fun _ _ => rfl) hM h61 hG hn62, fun z => absurd z (by decide)⟩
    · exact q.elim
  · refine ⟨1, _, kL_told hst r0 (kX3_told_r hst r0 f0 (Or.inr h1)) (fun _ _ _ q => q.elim) (fun E h' n' q => q.1), ?_⟩
    rintro rv h' n' (⟨E, ⟨rfl, rfl, rfl⟩, hdx⟩ | ⟨v, o2, hw, q, -⟩)
    · have hrv : rv = some (.int (nI 1)) := hdx.2
      refine ⟨hrv, rfl, by decide, 0, 0, _, o, by decide, by decide, h61, ⟨_, m0⟩, kX5_told_r hst m0 m41 m42 m43 m44 m45 q46 q47 q48 q49 q50 s0 s1 s2 s3 s4 q56 q57 q58 q59 q60 (hn62) (hrc) (Or.inr h1), ?_⟩
      intro rv2 h'' n'' hp
      exact ⟨_, hp.1.symm, Nat.le_of_eq hp.2.1, hp.fin hC (fun _ _ => rfl) hM h61 hG hn62, fun z => absurd z (by decide)⟩
    · exact q.elim
  · rcases pk_ix b (n := 8) (by omega) with h1 | h1 | ⟨b, hb, rfl⟩
    · refine ⟨1, _, kL_told hst r0 (kX3_told_w hst r0 f0 (hrc) (ha) (Or.inl h1)) (fun _ _ _ q => q.elim) (fun E h' n' q => q.1), ?_⟩
      rintro rv h' n' (⟨E, ⟨rfl, rfl, rfl⟩, hdx⟩ | ⟨v, o2, hw, q, -⟩)
      · have hrv : rv = some (.int (nI 1)) := hdx.2
        refine ⟨hrv, rfl, by decide, 0, 0, _, o, by decide, by decide, h61, ⟨_, m0⟩, kX5_told_w hst m0 m41 m42 m43 m44 m45 q46 q47 q48 q49 q50 s0 s1 s2 s3 s4 q56 q57 q58 q59 q60 (hn62) (hrc) (ha) (Or.inl h1), ?_⟩
        intro rv2 h'' n'' hp
        exact ⟨_, hp.1.symm, Nat.le_of_eq hp.2.1, hp.fin hC (fun _ _ => rfl) hM h61 hG hn62, fun z => absurd z (by decide)⟩
      · exact q.elim
    · refine ⟨1, _, kL_told hst r0 (kX3_told_w hst r0 f0 (hrc) (ha) (Or.inr h1)) (fun _ _ _ q => q.elim) (fun E h' n' q => q.1), ?_⟩
      rintro rv h' n' (⟨E, ⟨rfl, rfl, rfl⟩, hdx⟩ | ⟨v, o2, hw, q, -⟩)
      · have hrv : rv = some (.int (nI 1)) := hdx.2
        refine ⟨hrv, rfl, by decide, 0, 0, _, o, by decide, by decide, h61, ⟨_, m0⟩, kX5_told_w hst m0 m41 m42 m43 m44 m45 q46 q47 q48 q49 q50 s0 s1 s2 s3 s4 q56 q57 q58 q59 q60 (hn62) (hrc) (ha) (Or.inr h1), ?_⟩
        intro rv2 h'' n'' hp
        exact ⟨_, hp.1.symm, Nat.le_of_eq hp.2.1, hp.fin hC (fun _ _ => rfl) hM h61 hG hn62, fun z => absurd z (by decide)⟩
      · exact q.elim
    · refine ⟨0, _, kL_told hst r0 (kX3_told hst r0 f0 f1 f2 f3 f4 f5 f7 (hrc) (ha) (hb)) (fun rv h' n' q => ⟨_, o, q.1, by rw [q.2.1]; exact h61⟩) (fun _ _ _ q => q.elim), ?_⟩
      rintro rv h' n' (⟨E, q, -⟩ | ⟨v, o2, hw, q, ho2, rfl, rfl⟩)
      · exact q.elim
      · obtain ⟨qv, qh, qn⟩ := q
        subst qn
        have hC2 := (hC).tr40 (fun j _ => congrFun qh j)
        have tr : ∀ j, 40 ≤ j → j ≤ 60 → (hs hw 61 (aJ 1 (vp_updL o2 0 v.toInt64))) j = h j := fun j h1 h2 => (hs_ne (by omega)).trans ((congrFun qh j).trans (rfl))
        have hC3 := hC2.tr40 (h' := hs hw 61 (aJ 1 (vp_updL o2 0 v.toInt64))) (fun j hj => hs_ne (by omega))
        have hM3 := hM.tr (h' := hs hw 61 (aJ 1 (vp_updL o2 0 v.toInt64))) (fun j hj => tr j (by omega) (by omega))
        refine ⟨rfl, rfl, by decide, 1, 8, _, _, by decide, by decide, hs_eq _ _ _, ⟨_, (tr 40 (by decide) (by decide)).trans m0⟩, kX5_told hst ((tr 40 (by decide) (by decide)).trans m0) ((tr 41 (by decide) (by decide)).trans m41) ((tr 42 (by decide) (by decide)).trans m42) ((tr 43 (by decide) (by decide)).trans m43) ((tr 44 (by decide) (by decide)).trans m44) ((tr 45 (by decide) (by decide)).trans m45) ((tr 46 (by decide) (by decide)).trans q46) ((tr 47 (by decide) (by decide)).trans q47) ((tr 48 (by decide) (by decide)).trans q48) ((tr 49 (by decide) (by decide)).trans q49) ((tr 50 (by decide) (by decide)).trans q50) ((tr 51 (by decide) (by decide)).trans s0) ((tr (51 + 1) (by decide) (by decide)).trans s1) ((tr (51 + 2) (by decide) (by decide)).trans s2) ((tr (51 + 3) (by decide) (by decide)).trans s3) ((tr (51 + 4) (by decide) (by decide)).trans s4) ((tr 56 (by decide) (by decide)).trans q56) ((tr (56 + 1) (by decide) (by decide)).trans q57) ((tr (56 + 2) (by decide) (by decide)).trans q58) ((tr (56 + 3) (by decide) (by decide)).trans q59) ((tr (56 + 4) (by decide) (by decide)).trans q60) (hn62) (hrc) (ha) (hb) (hso), ?_⟩
        intro rv2 h'' n'' hp
        have hf := hp.fin hC3 (fun _ _ => rfl) hM3 (hs_eq _ _ _) (hG) (by omega)
        exact ⟨_, hp.1.symm, by have := hp.2.1; omega, hf, fun _ => pk_uLs.trans (congrArg Int32.toInt64 ((Value.int.inj (Option.some.inj qv)).trans (rfl)))⟩
set_option maxRecDepth 20000 in
theorem pr_bell {l : Launch} {K : gw_K} (hst : l.stackTraces = false) {h : gw_H} {n : Nat} {thr : Int32} {o : Nat → Int64} (hI : INV h n thr o) (a b d : Int32) : PAIR l K h n mL_bell hhL_bell mX5_bell [.ref 0, .int a, .int b, .int d, .ref 61] [.ref 40, .int a, .int b, .int d] := by
  obtain ⟨hn62, h61, wd, sk, vt, ti, fa, st, ws, rc, dy, mc, tch, frs, ln, lds, rws, frx, hos, chs, dgs, cs, hC, hX, hM, hG⟩ := hI
  obtain ⟨r0, f0, f1, f2, f3, f4, f5, ⟨tf, f6⟩, f7, f8, ⟨owd, osk, ovt, oti, ofa, otf, ost, ows, orc, ody, t0, t1, t2, t3, t4, t5, t6, t7, t8⟩, ⟨pl, mv, ma, sn, cm, rr, u0, u1, u2, u3, u4⟩, fl, fli⟩ := id hC
  obtain ⟨len, ady, co, dg, rw_, go, we, avt, ati, afa, ast, m0, q46, q47, q48, q49, q50, q56, q57, q58, q59, q60⟩ := id hX
  obtain ⟨m41, m42, m43, m44, m45, s0, s1, s2, s3, s4⟩ := id hM
  obtain ⟨hrc, hm5, hsi, hvp, hsk, hln, hlk, hv, hlo⟩ := id hG
  have hso : ∀ r, r < rc → seatOK (st r) := fun r hr => (hsi r hr).1
  have hl : ∀ k c, k < mc → c = 25 + 3 * k → h c = oB 0 [.ref (c + 1), .ref (c + 2), .int (nI (ln k)), .int (nI (lds k)), .int (rws k), .int (frx k), .int (hos k)] ∧ h (c + 1) = aI 12 (chs k) ∧ h (c + 2) = aI 6 (dgs k) := fun k c hk hc => fli k c (by omega) hc
  have hmc : ∀ m, m < mc → ln m ≤ 12 ∧ codI (chM cs ln m) (crM (chM cs ln m) (ln m) * ln m) = nI 1865 := fun m hm => ⟨hln m (by omega), (hlo m (by omega)).2.2.2⟩
  rcases pk_ix a (n := 3) (by omega) with h1 | h1 | ⟨a, ha, rfl⟩
  · refine ⟨1, _, kL_bell hst r0 (kX3_bell_s hst r0 f0 (Or.inl (Or.inl h1))) (fun _ _ _ q => q.elim) (fun E h' n' q => q.1), ?_⟩
    rintro rv h' n' (⟨E, ⟨rfl, rfl, rfl⟩, hdx⟩ | ⟨v, o2, hw, q, -⟩)
    · have hrv : rv = some (.int (nI 1)) := hdx.2
      refine ⟨hrv, rfl, by decide, 0, 0, _, o, by decide, by decide, h61, ⟨_, m0⟩, kX5_bell_s hst m0 m41 m42 m43 m44 m45 q46 q47 q48 q49 q50 s0 s1 s2 s3 s4 q56 q57 q58 q59 q60 (hn62) (Or.inl (Or.inl h1)), ?_⟩
      intro rv2 h'' n'' hp
      exact ⟨_, hp.1.symm, Nat.le_of_eq hp.2.1, hp.fin hC (fun _ _ => rfl) hM h61 hG hn62, fun z => absurd z (by decide)⟩
    · exact q.elim
  · refine ⟨1, _, kL_bell hst r0 (kX3_bell_s hst r0 f0 (Or.inl (Or.inr h1))) (fun _ _ _ q => q.elim) (fun E h' n' q => q.1), ?_⟩
    rintro rv h' n' (⟨E, ⟨rfl, rfl, rfl⟩, hdx⟩ | ⟨v, o2, hw, q, -⟩)
    · have hrv : rv = some (.int (nI 1)) := hdx.2
      refine ⟨hrv, rfl, by decide, 0, 0, _, o, by decide, by decide, h61, ⟨_, m0⟩, kX5_bell_s hst m0 m41 m42 m43 m44 m45 q46 q47 q48 q49 q50 s0 s1 s2 s3 s4 q56 q57 q58 q59 q60 (hn62) (Or.inl (Or.inr h1)), ?_⟩
      intro rv2 h'' n'' hp
      exact ⟨_, hp.1.symm, Nat.le_of_eq hp.2.1, hp.fin hC (fun _ _ => rfl) hM h61 hG hn62, fun z => absurd z (by decide)⟩
    · exact q.elim
  · rcases pk_ix b (n := 6) (by omega) with h1 | h1 | ⟨b, hb, rfl⟩
    · refine ⟨1, _, kL_bell hst r0 (kX3_bell_s hst r0 f0 (Or.inr (Or.inl h1))) (fun _ _ _ q => q.elim) (fun E h' n' q => q.1), ?_⟩
      rintro rv h' n' (⟨E, ⟨rfl, rfl, rfl⟩, hdx⟩ | ⟨v, o2, hw, q, -⟩)
      · have hrv : rv = some (.int (nI 1)) := hdx.2
        refine ⟨hrv, rfl, by decide, 0, 0, _, o, by decide, by decide, h61, ⟨_, m0⟩, kX5_bell_s hst m0 m41 m42 m43 m44 m45 q46 q47 q48 q49 q50 s0 s1 s2 s3 s4 q56 q57 q58 q59 q60 (hn62) (Or.inr (Or.inl h1)), ?_⟩
        intro rv2 h'' n'' hp
        exact ⟨_, hp.1.symm, Nat.le_of_eq hp.2.1, hp.fin hC (fun _ _ => rfl) hM h61 hG hn62, fun z => absurd z (by decide)⟩
      · exact q.elim
    · refine ⟨1, _, kL_bell hst r0 (kX3_bell_s hst r0 f0 (Or.inr (Or.inr h1))) (fun _ _ _ q => q.elim) (fun E h' n' q => q.1), ?_⟩
      rintro rv h' n' (⟨E, ⟨rfl, rfl, rfl⟩, hdx⟩ | ⟨v, o2, hw, q, -⟩)
      · have hrv : rv = some (.int (nI 1)) := hdx.2
        refine ⟨hrv, rfl, by decide, 0, 0, _, o, by decide, by decide, h61, ⟨_, m0⟩, kX5_bell_s hst m0 m41 m42 m43 m44 m45 q46 q47 q48 q49 q50 s0 s1 s2 s3 s4 q56 q57 q58 q59 q60 (hn62) (Or.inr (Or.inr h1)), ?_⟩
        intro rv2 h'' n'' hp
        exact ⟨_, hp.1.symm, Nat.le_of_eq hp.2.1, hp.fin hC (fun _ _ => rfl) hM h61 hG hn62, fun z => absurd z (by decide)⟩
      · exact q.elim
    · rcases pk_ix d (n := 3) (by omega) with h1 | h1 | ⟨d, hd, rfl⟩
      · refine ⟨1, _, kL_bell hst r0 (kX3_bell_w hst r0 f0 (ha) (hb) (Or.inl h1)) (fun _ _ _ q => q.elim) (fun E h' n' q => q.1), ?_⟩
        rintro rv h' n' (⟨E, ⟨rfl, rfl, rfl⟩, hdx⟩ | ⟨v, o2, hw, q, -⟩)
        · have hrv : rv = some (.int (nI 1)) := hdx.2
          refine ⟨hrv, rfl, by decide, 0, 0, _, o, by decide, by decide, h61, ⟨_, m0⟩, kX5_bell_w hst m0 m41 m42 m43 m44 m45 q46 q47 q48 q49 q50 s0 s1 s2 s3 s4 q56 q57 q58 q59 q60 (hn62) (ha) (hb) (Or.inl h1), ?_⟩
          intro rv2 h'' n'' hp
          exact ⟨_, hp.1.symm, Nat.le_of_eq hp.2.1, hp.fin hC (fun _ _ => rfl) hM h61 hG hn62, fun z => absurd z (by decide)⟩
        · exact q.elim
      · refine ⟨1, _, kL_bell hst r0 (kX3_bell_w hst r0 f0 (ha) (hb) (Or.inr h1)) (fun _ _ _ q => q.elim) (fun E h' n' q => q.1), ?_⟩
        rintro rv h' n' (⟨E, ⟨rfl, rfl, rfl⟩, hdx⟩ | ⟨v, o2, hw, q, -⟩)
        · have hrv : rv = some (.int (nI 1)) := hdx.2
          refine ⟨hrv, rfl, by decide, 0, 0, _, o, by decide, by decide, h61, ⟨_, m0⟩, kX5_bell_w hst m0 m41 m42 m43 m44 m45 q46 q47 q48 q49 q50 s0 s1 s2 s3 s4 q56 q57 q58 q59 q60 (hn62) (ha) (hb) (Or.inr h1), ?_⟩
          intro rv2 h'' n'' hp
          exact ⟨_, hp.1.symm, Nat.le_of_eq hp.2.1, hp.fin hC (fun _ _ => rfl) hM h61 hG hn62, fun z => absurd z (by decide)⟩
        · exact q.elim
      · refine ⟨0, _, kL_bell hst r0 (kX3_bell hst r0 f0 f1 f2 f3 f4 f5 f7 f8 t0 t1 t2 t3 t4 t5 t6 t7 t8 u0 u1 u2 u3 u4 (hrc) (ha) (hb) (hd)) (fun rv h' n' q => ⟨_, o, q.1.symm, (q.2.2.1 61 (by omega)).trans (h61)⟩) (fun _ _ _ q => q.elim), ?_⟩
        rintro rv h' n' (⟨E, q, -⟩ | ⟨v, o2, hw, q, ho2, rfl, rfl⟩)
        · exact q.elim
        · obtain ⟨qv, qn, qK, qT, qU⟩ := q
          subst qn
          have hC2 := (hC).tr (fun j hj => qK j (by omega)) qT qU
          have tr : ∀ j, 40 ≤ j → j ≤ 60 → (hs hw 61 (aJ 1 (vp_updL o2 0 v.toInt64))) j = h j := fun j h1 h2 => (hs_ne (by omega)).trans ((qK j (by omega)).trans (rfl))
          have hC3 := hC2.tr40 (h' := hs hw 61 (aJ 1 (vp_updL o2 0 v.toInt64))) (fun j hj => hs_ne (by omega))
          have hM3 := hM.tr (h' := hs hw 61 (aJ 1 (vp_updL o2 0 v.toInt64))) (fun j hj => tr j (by omega) (by omega))
          refine ⟨rfl, rfl, by decide, 0, 0, _, _, by decide, by decide, hs_eq _ _ _, ⟨_, (tr 40 (by decide) (by decide)).trans m0⟩, kX5_bell hst ((tr 40 (by decide) (by decide)).trans m0) ((tr 41 (by decide) (by decide)).trans m41) ((tr 42 (by decide) (by decide)).trans m42) ((tr 43 (by decide) (by decide)).trans m43) ((tr 44 (by decide) (by decide)).trans m44) ((tr 45 (by decide) (by decide)).trans m45) ((tr 46 (by decide) (by decide)).trans q46) ((tr 47 (by decide) (by decide)).trans q47) ((tr 48 (by decide) (by decide)).trans q48) ((tr 49 (by decide) (by decide)).trans q49) ((tr 50 (by decide) (by decide)).trans q50) ((tr 51 (by decide) (by decide)).trans s0) ((tr (51 + 1) (by decide) (by decide)).trans s1) ((tr (51 + 2) (by decide) (by decide)).trans s2) ((tr (51 + 3) (by decide) (by decide)).trans s3) ((tr (51 + 4) (by decide) (by decide)).trans s4) ((tr 56 (by decide) (by decide)).trans q56) ((tr (56 + 1) (by decide) (by decide)).trans q57) ((tr (56 + 2) (by decide) (by decide)).trans q58) ((tr (56 + 3) (by decide) (by decide)).trans q59) ((tr (56 + 4) (by decide) (by decide)).trans q60) (hn62) (hrc) (hsi) (hvp) (ha) (hb) (hd), ?_⟩
          intro rv2 h'' n'' hp
          have hf := hp.fin hC3 (fun _ _ => rfl) hM3 (hs_eq _ _ _) (hG) (by omega)
          exact ⟨_, hp.1.symm, by have := hp.2.1; omega, hf, fun _ => pk_uLs.trans (congrArg Int32.toInt64 ((Value.int.inj (Option.some.inj qv)).symm.trans (rfl)))⟩
set_option maxRecDepth 20000 in
theorem pr_method {l : Launch} {K : gw_K} (hst : l.stackTraces = false) {h : gw_H} {n : Nat} {thr : Int32} {o : Nat → Int64} (hI : INV h n thr o)  : PAIR l K h n mL_method hhL_method mX5_method [.ref 0, .ref 61] [.ref 40] := by
  obtain ⟨hn62, h61, wd, sk, vt, ti, fa, st, ws, rc, dy, mc, tch, frs, ln, lds, rws, frx, hos, chs, dgs, cs, hC, hX, hM, hG⟩ := hI
  obtain ⟨r0, f0, f1, f2, f3, f4, f5, ⟨tf, f6⟩, f7, f8, ⟨owd, osk, ovt, oti, ofa, otf, ost, ows, orc, ody, t0, t1, t2, t3, t4, t5, t6, t7, t8⟩, ⟨pl, mv, ma, sn, cm, rr, u0, u1, u2, u3, u4⟩, fl, fli⟩ := id hC
  obtain ⟨len, ady, co, dg, rw_, go, we, avt, ati, afa, ast, m0, q46, q47, q48, q49, q50, q56, q57, q58, q59, q60⟩ := id hX
  obtain ⟨m41, m42, m43, m44, m45, s0, s1, s2, s3, s4⟩ := id hM
  obtain ⟨hrc, hm5, hsi, hvp, hsk, hln, hlk, hv, hlo⟩ := id hG
  have hso : ∀ r, r < rc → seatOK (st r) := fun r hr => (hsi r hr).1
  have hl : ∀ k c, k < mc → c = 25 + 3 * k → h c = oB 0 [.ref (c + 1), .ref (c + 2), .int (nI (ln k)), .int (nI (lds k)), .int (rws k), .int (frx k), .int (hos k)] ∧ h (c + 1) = aI 12 (chs k) ∧ h (c + 2) = aI 6 (dgs k) := fun k c hk hc => fli k c (by omega) hc
  have hmc : ∀ m, m < mc → ln m ≤ 12 ∧ codI (chM cs ln m) (crM (chM cs ln m) (ln m) * ln m) = nI 1865 := fun m hm => ⟨hln m (by omega), (hlo m (by omega)).2.2.2⟩
  rcases Nat.lt_or_ge mc 5 with h1 | h1
  · refine ⟨0, _, kL_method hst r0 (kX3_method hst r0 f0 (h1)) (fun rv h' n' q => ⟨_, o, q.1, by rw [q.2.1]; exact (hs_ne (by omega)).trans (h61)⟩) (fun _ _ _ q => q.elim), ?_⟩
    rintro rv h' n' (⟨E, q, -⟩ | ⟨v, o2, hw, q, ho2, rfl, rfl⟩)
    · exact q.elim
    · obtain ⟨qv, qh, qn⟩ := q
      subst qn
      have hC2 := (hC.s_mob _ _ _).tr40 (fun j _ => congrFun qh j)
      have tr : ∀ j, 40 ≤ j → j ≤ 60 → (hs hw 61 (aJ 1 (vp_updL o2 0 v.toInt64))) j = h j := fun j h1 h2 => (hs_ne (by omega)).trans ((congrFun qh j).trans ((hs_ne (by omega)).trans (rfl)))
      have hC3 := hC2.tr40 (h' := hs hw 61 (aJ 1 (vp_updL o2 0 v.toInt64))) (fun j hj => hs_ne (by omega))
      have hM3 := hM.tr (h' := hs hw 61 (aJ 1 (vp_updL o2 0 v.toInt64))) (fun j hj => tr j (by omega) (by omega))
      refine ⟨rfl, rfl, by decide, 0, 0, _, _, by decide, by decide, hs_eq _ _ _, ⟨_, (tr 40 (by decide) (by decide)).trans m0⟩, kX5_method hst ((tr 40 (by decide) (by decide)).trans m0) ((tr 41 (by decide) (by decide)).trans m41) ((tr 42 (by decide) (by decide)).trans m42) ((tr 43 (by decide) (by decide)).trans m43) ((tr 44 (by decide) (by decide)).trans m44) ((tr 45 (by decide) (by decide)).trans m45) ((tr 46 (by decide) (by decide)).trans q46) ((tr 47 (by decide) (by decide)).trans q47) ((tr 48 (by decide) (by decide)).trans q48) ((tr 49 (by decide) (by decide)).trans q49) ((tr 50 (by decide) (by decide)).trans q50) ((tr 51 (by decide) (by decide)).trans s0) ((tr (51 + 1) (by decide) (by decide)).trans s1) ((tr (51 + 2) (by decide) (by decide)).trans s2) ((tr (51 + 3) (by decide) (by decide)).trans s3) ((tr (51 + 4) (by decide) (by decide)).trans s4) ((tr 56 (by decide) (by decide)).trans q56) ((tr (56 + 1) (by decide) (by decide)).trans q57) ((tr (56 + 2) (by decide) (by decide)).trans q58) ((tr (56 + 3) (by decide) (by decide)).trans q59) ((tr (56 + 4) (by decide) (by decide)).trans q60) (hn62) (h1), ?_⟩
      intro rv2 h'' n'' hp
      have hf := hp.fin hC3 (fun _ _ => rfl) hM3 (hs_eq _ _ _) (⟨hrc, by omega, hsi, hvp, hsk, hln, hlk, hv, hlo⟩) (by omega)
      exact ⟨_, hp.1.symm, by have := hp.2.1; omega, hf, fun _ => pk_uLs.trans (congrArg Int32.toInt64 ((Value.int.inj (Option.some.inj qv)).trans (rfl)))⟩
  · refine ⟨1, _, kL_method hst r0 (kX3_method_f hst r0 f0 (by omega)) (fun _ _ _ q => q.elim) (fun E h' n' q => q.1), ?_⟩
    rintro rv h' n' (⟨E, ⟨rfl, rfl, rfl⟩, hdx⟩ | ⟨v, o2, hw, q, -⟩)
    · have hrv : rv = some (.int (nI 1)) := hdx.2
      refine ⟨hrv, rfl, by decide, 0, 0, _, o, by decide, by decide, h61, ⟨_, m0⟩, kX5_method_f hst m0 m41 m42 m43 m44 m45 q46 q47 q48 q49 q50 s0 s1 s2 s3 s4 q56 q57 q58 q59 q60 (hn62) (by omega), ?_⟩
      intro rv2 h'' n'' hp
      exact ⟨_, hp.1.symm, Nat.le_of_eq hp.2.1, hp.fin hC (fun _ _ => rfl) hM h61 hG hn62, fun z => absurd z (by decide)⟩
    · exact q.elim
