theorem gn_in1 {x : Int32} {a b : Nat} (hb : b < 1000) (ha : a ≤ b) (h : ¬ (x < nI a ∨ nI b < x)) : ∃ k, a ≤ k ∧ k ≤ b ∧ x = nI k := by
  rcases pk_ix x (n := b + 1) (by omega) with q | q | ⟨j, h1, h2⟩
  · refine absurd (Or.inl ?_) h
    have e := Int32.lt_iff_toInt_lt.mp q
    have e1 : (nI a).toInt = (a : Int) := nI_toInt (by omega)
    have e0 : (0 : Int32).toInt = 0 := by decide
    exact Int32.lt_iff_toInt_lt.mpr (by omega)
  · exact absurd (Or.inr (gn_up hb q)) h
  · refine ⟨j, ?_, by omega, h2⟩
    rcases Nat.lt_or_ge j a with z | z
    · exact absurd (Or.inl (by rw [h2]; exact (gn_lt ⟨by omega, by omega⟩).mpr z)) h
    · exact z
theorem mbr_cg {vt ti fa st sk c c' : Nat → Int32} {rc b m L : Nat} (h : 0 < m → c = c') : mbrI vt ti fa st sk c rc b m L = mbrI vt ti fa st sk c' rc b m L := by
  unfold mbrI
  by_cases q : 0 < m ∧ freshI st ti rc (nI b) = nI 6
  · rw [if_pos q, if_pos q, h q.1]
  · rw [if_neg q, if_neg q]
theorem vtI_pos {st tf vt : Nat → Int32} {rc b : Nat} {mo : Int32} (h : ∀ r, r < rc → 0 ≤ vt r) : ∀ r, r < rc → 0 ≤ vtI st tf rc b mo vt r := fun r hr => by
  have e := vt_at (st := st) (tf := tf) (b := b) (mo := mo) (v := vt) rc r
  have e2 : vtI st tf rc b mo vt r = if r < rc ∧ bandI (st r) = nI b then clampI (vt r + (mo - tf r)) else vt r := e
  rw [e2]
  split
  · exact clamp_pos _
  · exact h r hr
/-- a change more -/
theorem add_GD {sk vt st : Nat → Int32} {rc mc m q : Nat} {ln lds : Nat → Nat} {rws frx hos : Nat → Int32} {chs dgs : Nat → Nat → Int32} {cs ma : Nat → Int32} (hG : GDs sk vt st rc mc ln lds rws frx hos chs dgs cs) (hm : m < 5) (hf : ln m < 12) (hq : q < 32) (hq0 : q &&& (q >>> 1) = 0) :
    GDs sk vt st rc mc (updN ln m (ln m + 1)) (updN lds m (crsI (upd (chs m) (ln m) (nI q)) (ln m + 1) ma).1) (upd rws m ((crsI (upd (chs m) (ln m) (nI q)) (ln m + 1) ma).2.1.2.2.2.2.1 + nI 1 - (crsI (upd (chs m) (ln m) (nI q)) (ln m + 1) ma).2.1.2.2.2.2.2)) (upd frx m (frI (crsI (upd (chs m) (ln m) (nI q)) (ln m + 1) ma).2.1.1 (crsI (upd (chs m) (ln m) (nI q)) (ln m + 1) ma).2.1.2.2.2.2.1 (crsI (upd (chs m) (ln m) (nI q)) (ln m + 1) ma).2.1.2.2.2.2.2)) (upd hos m (homeI (crs1 (upd (chs m) (ln m) (nI q)) (ln m + 1) ma).1.1)) (updC chs m (upd (chs m) (ln m) (nI q))) (updC dgs m (crsI (upd (chs m) (ln m) (nI q)) (ln m + 1) ma).2.2) (upd cs (12 * m + ln m) (nI q)) := by
  obtain ⟨hrc, hm5, hsi, hvp, hsk, hln, hlk, hv, hlo⟩ := hG
  have hvm : ∀ i, i < ln m + 1 → vchg (upd (chs m) (ln m) (nI q) i) := upd_chg (hv m hm) ⟨q, hq, rfl, hq0⟩
  have hlm : ∀ z, z < ln m + 1 → upd cs (12 * m + ln m) (nI q) (12 * m + z) = upd (chs m) (ln m) (nI q) z := fun z hz => by
    by_cases e : z = ln m
    · rw [e, pk_us, pk_us]
    · rw [pk_un (by omega), pk_un e]
      exact hlk m hm z (by omega)
  have hlk2 : ∀ k, k < 5 → k ≠ m → ∀ z, z < ln k → upd cs (12 * m + ln m) (nI q) (12 * k + z) = cs (12 * k + z) := fun k hk hkm z hz => by
    have := hln k hk
    exact pk_un (by omega)
  refine ⟨hrc, hm5, hsi, hvp, hsk, fun k hk => ?_, fun k hk => ?_, fun k hk => ?_, fun k hk => ?_⟩
  · unfold updN
    split
    · omega
    · exact hln k hk
  · by_cases hkm : k = m
    · subst hkm
      simp only [updN, updC, if_true]
      exact hlm
    · simp only [updN, updC, if_neg hkm]
      intro z hz
      rw [hlk2 k hk hkm z hz]
      exact hlk k hk z hz
  · by_cases hkm : k = m
    · subst hkm
      simp only [updN, updC, if_true]
      exact hvm
    · simp only [updN, updC, if_neg hkm]
      exact hv k hk
  · by_cases hkm : k = m
    · subst hkm
      have e : chM (upd cs (12 * k + ln k) (nI q)) (updN ln k (ln k + 1)) k = fun z => upd (chs k) (ln k) (nI q) (z % (ln k + 1)) := by
        have h1 := chM_eq (cs := upd cs (12 * k + ln k) (nI q)) (mn := updN ln k (ln k + 1)) (ch := upd (chs k) (ln k) (nI q)) (k := k) (by simp only [updN, if_true]; exact hlm) (by simp only [updN, if_true]; omega)
        simp only [updN, if_true] at h1 ⊢
        exact h1
      rw [e]
      simp only [updN, updC, upd, if_true]
      exact LOK_crs (by omega) (vmod hvm (by omega))
    · have h1 := hlo k hk
      have e : 0 < ln k → chM (upd cs (12 * m + ln m) (nI q)) (updN ln m (ln m + 1)) k = chM cs ln k := fun h0 => by
        funext z
        have h2 := Nat.mod_lt z h0
        show upd cs (12 * m + ln m) (nI q) (12 * k + z % updN ln m (ln m + 1) k) = cs (12 * k + z % ln k)
        simp only [updN, if_neg hkm]
        exact hlk2 k hk hkm _ h2
      simp only [updN, updC, upd, if_neg hkm] at e ⊢
      exact LOK_cg h1 e
set_option maxRecDepth 20000 in
theorem pr_add {l : Launch} {K : gw_K} (hst : l.stackTraces = false) {h : gw_H} {n : Nat} {thr : Int32} {o : Nat → Int64} (hI : INV h n thr o) (a b : Int32) : PAIR l K h n mL_add hhL_add mX5_add [.ref 0, .int a, .int b, .ref 61] [.ref 40, .int a, .int b] := by
  obtain ⟨hn62, h61, wd, sk, vt, ti, fa, st, ws, rc, dy, mc, tch, frs, ln, lds, rws, frx, hos, chs, dgs, cs, hC, hX, hM, hG⟩ := hI
  obtain ⟨r0, f0, f1, f2, f3, f4, f5, ⟨tf, f6⟩, f7, f8, ⟨owd, osk, ovt, oti, ofa, otf, ost, ows, orc, ody, t0, t1, t2, t3, t4, t5, t6, t7, t8⟩, ⟨pl, mv, ma, sn, cm, rr, u0, u1, u2, u3, u4⟩, fl, fli⟩ := id hC
  obtain ⟨len, ady, co, dg, rw_, go, we, avt, ati, afa, ast, m0, q46, q47, q48, q49, q50, q56, q57, q58, q59, q60⟩ := id hX
  obtain ⟨m41, m42, m43, m44, m45, s0, s1, s2, s3, s4⟩ := id hM
  obtain ⟨hrc, hm5, hsi, hvp, hsk, hln, hlk, hv, hlo⟩ := id hG
  have hso : ∀ r, r < rc → seatOK (st r) := fun r hr => (hsi r hr).1
  have hl : ∀ k c, k < mc → c = 25 + 3 * k → h c = oB 0 [.ref (c + 1), .ref (c + 2), .int (nI (ln k)), .int (nI (lds k)), .int (rws k), .int (frx k), .int (hos k)] ∧ h (c + 1) = aI 12 (chs k) ∧ h (c + 2) = aI 6 (dgs k) := fun k c hk hc => fli k c (by omega) hc
  have hmc : ∀ m, m < mc → ln m ≤ 12 ∧ codI (chM cs ln m) (crM (chM cs ln m) (ln m) * ln m) = nI 1865 := fun m hm => ⟨hln m (by omega), (hlo m (by omega)).2.2.2⟩
  rcases pk_ix a (n := mc) (by omega) with h1 | h1 | ⟨a, ha, rfl⟩
  · refine ⟨1, _, kL_add hst r0 (kX3_add_m hst r0 f0 (Or.inl h1)) (fun _ _ _ q => q.elim) (fun E h' n' q => Or.inl q.1), ?_⟩
    rintro rv h' n' (⟨E, ⟨rfl, rfl, rfl⟩, hdx⟩ | ⟨v, o2, hw, q, -⟩)
    · have hrv : rv = some (.int (nI 1)) := by
        rcases hdx with ⟨z, w⟩ | ⟨z, w⟩ | ⟨z, w⟩
        · exact w
        · exact absurd z (by decide)
        · exact absurd z (by decide)
      refine ⟨hrv, rfl, by decide, 0, 0, _, o, by decide, by decide, h61, ⟨_, m0⟩, kX5_add_m hst m0 m41 m42 m43 m44 m45 q46 q47 q48 q49 q50 s0 s1 s2 s3 s4 q56 q57 q58 q59 q60 (hn62) (hm5) (Or.inl h1), ?_⟩
      intro rv2 h'' n'' hp
      exact ⟨_, hp.1.symm, Nat.le_of_eq hp.2.1, hp.fin hC (fun _ _ => rfl) hM h61 hG hn62, fun z => absurd z (by decide)⟩
    · exact q.elim
  · refine ⟨1, _, kL_add hst r0 (kX3_add_m hst r0 f0 (Or.inr h1)) (fun _ _ _ q => q.elim) (fun E h' n' q => Or.inl q.1), ?_⟩
    rintro rv h' n' (⟨E, ⟨rfl, rfl, rfl⟩, hdx⟩ | ⟨v, o2, hw, q, -⟩)
    · have hrv : rv = some (.int (nI 1)) := by
        rcases hdx with ⟨z, w⟩ | ⟨z, w⟩ | ⟨z, w⟩
        · exact w
        · exact absurd z (by decide)
        · exact absurd z (by decide)
      refine ⟨hrv, rfl, by decide, 0, 0, _, o, by decide, by decide, h61, ⟨_, m0⟩, kX5_add_m hst m0 m41 m42 m43 m44 m45 q46 q47 q48 q49 q50 s0 s1 s2 s3 s4 q56 q57 q58 q59 q60 (hn62) (hm5) (Or.inr h1), ?_⟩
      intro rv2 h'' n'' hp
      exact ⟨_, hp.1.symm, Nat.le_of_eq hp.2.1, hp.fin hC (fun _ _ => rfl) hM h61 hG hn62, fun z => absurd z (by decide)⟩
    · exact q.elim
  · obtain ⟨c, hck⟩ : ∃ c, c = 25 + 3 * a := ⟨_, rfl⟩
    obtain ⟨l0, l1, l2⟩ := fli a c (by omega) hck
    have hm12 := hln a (by omega)
    have hch := hv a (by omega)
    obtain ⟨hmn, hcr⟩ := hmc a ha
    have hlkv := hlk a (by omega)
    rcases Classical.em (b < nI 0 ∨ nI 31 < b) with h2 | h2
    · refine ⟨2, _, kL_add hst r0 (kX3_add_c hst r0 f0 l0 l1 l2 fl (ha) (hm5) (hck) (hm12) (h2)) (fun _ _ _ q => q.elim) (fun E h' n' q => Or.inr (Or.inl q.1)), ?_⟩
      rintro rv h' n' (⟨E, ⟨rfl, rfl, rfl⟩, hdx⟩ | ⟨v, o2, hw, q, -⟩)
      · have hrv : rv = some (.int (nI 2)) := by
          rcases hdx with ⟨z, w⟩ | ⟨z, w⟩ | ⟨z, w⟩
          · exact absurd z (by decide)
          · exact w
          · exact absurd z (by decide)
        refine ⟨hrv, rfl, by decide, 0, 0, _, o, by decide, by decide, h61, ⟨_, m0⟩, kX5_add_c hst m0 m41 m42 m43 m44 m45 q46 q47 q48 q49 q50 s0 s1 s2 s3 s4 q56 q57 q58 q59 q60 (hn62) (hm5) (ha) (h2), ?_⟩
        intro rv2 h'' n'' hp
        exact ⟨_, hp.1.symm, Nat.le_of_eq hp.2.1, hp.fin hC (fun _ _ => rfl) hM h61 hG hn62, fun z => absurd z (by decide)⟩
      · exact q.elim
    · obtain ⟨b, hb31, rfl⟩ := gn_in (by omega) h2
      rcases Classical.em (b &&& (b >>> 1) = 0) with hcp | hcp
      · rcases Nat.lt_or_ge (ln a) 12 with h5 | h5
        · refine ⟨0, _, kL_add hst r0 (kX3_add hst r0 f0 t0 t1 t2 t3 t4 t5 t6 t7 t8 u0 u1 u2 u3 u4 l0 l1 l2 fl (ha) (hm5) (hck) (hm12) (by omega) (hch)) (fun rv h' n' q => ⟨_, o, q.2.1.symm, (q.2.2.2.1 61 (by omega)).trans ((hs_ne (by omega)).trans ((hs_ne (by omega)).trans ((hs_ne (by omega)).trans (h61))))⟩) (fun _ _ _ q => (q.1.elim (fun z => z.1 hcp) (fun z => by have := z.2.1; omega) : False).elim), ?_⟩
          rintro rv h' n' (⟨E, q, -⟩ | ⟨v, o2, hw, q, ho2, rfl, rfl⟩)
          · exact (q.1.elim (fun z => z.1 hcp) (fun z => by have := z.2.1; omega) : False).elim
          · obtain ⟨qv, qn, qK, qT, qU⟩ := q.2
            subst qn
            have hC2 := (hC.s_list (by omega) hck).tr (fun j hj => qK j (by omega)) qT qU
            have tr : ∀ j, 40 ≤ j → j ≤ 60 → (hs hw 61 (aJ 1 (vp_updL o2 0 v.toInt64))) j = h j := fun j h1 h2 => (hs_ne (by omega)).trans ((qK j (by omega)).trans ((hs_ne (by omega)).trans ((hs_ne (by omega)).trans ((hs_ne (by omega)).trans (rfl)))))
            have hC3 := hC2.tr40 (h' := hs hw 61 (aJ 1 (vp_updL o2 0 v.toInt64))) (fun j hj => hs_ne (by omega))
            have hM3 := hM.tr (h' := hs hw 61 (aJ 1 (vp_updL o2 0 v.toInt64))) (fun j hj => tr j (by omega) (by omega))
            refine ⟨rfl, rfl, by decide, 0, 0, _, _, by decide, by decide, hs_eq _ _ _, ⟨_, (tr 40 (by decide) (by decide)).trans m0⟩, kX5_add hst ((tr 40 (by decide) (by decide)).trans m0) ((tr 41 (by decide) (by decide)).trans m41) ((tr 42 (by decide) (by decide)).trans m42) ((tr 43 (by decide) (by decide)).trans m43) ((tr 44 (by decide) (by decide)).trans m44) ((tr 45 (by decide) (by decide)).trans m45) ((tr 46 (by decide) (by decide)).trans q46) ((tr 47 (by decide) (by decide)).trans q47) ((tr 48 (by decide) (by decide)).trans q48) ((tr 49 (by decide) (by decide)).trans q49) ((tr 50 (by decide) (by decide)).trans q50) ((tr 51 (by decide) (by decide)).trans s0) ((tr (51 + 1) (by decide) (by decide)).trans s1) ((tr (51 + 2) (by decide) (by decide)).trans s2) ((tr (51 + 3) (by decide) (by decide)).trans s3) ((tr (51 + 4) (by decide) (by decide)).trans s4) ((tr 56 (by decide) (by decide)).trans q56) ((tr (56 + 1) (by decide) (by decide)).trans q57) ((tr (56 + 2) (by decide) (by decide)).trans q58) ((tr (56 + 3) (by decide) (by decide)).trans q59) ((tr (56 + 4) (by decide) (by decide)).trans q60) (hn62) (hm5) (ha) (by omega) (hcp) (h5), ?_⟩
            intro rv2 h'' n'' hp
            have hf := hp.fin hC3 (fun j hj => (hs_ne (by omega)).trans ((hs_ne (by omega)).trans (rfl))) ((hM3.s_cs _).s_mn _) ((hs_ne (by omega)).trans ((hs_ne (by omega)).trans (hs_eq _ _ _))) (add_GD hG (by omega) h5 (by omega) hcp) (by omega)
            exact ⟨_, hp.1.symm, by have := hp.2.1; omega, hf, fun _ => pk_uLs.trans (congrArg Int32.toInt64 ((Value.int.inj (Option.some.inj qv)).symm.trans (rfl)))⟩
        · have hEx : ∀ (E : String) (h' : gw_H) (n' : Nat), ((¬ b &&& (b >>> 1) = 0 ∧ E = "java/lang/IllegalArgumentException") ∨ (b &&& (b >>> 1) = 0 ∧ ln a = 12 ∧ E = "java/lang/IllegalStateException")) ∧ h' = h ∧ n' = n → E = "java/lang/IllegalStateException" := fun E h' n' q => q.1.elim (fun z => absurd hcp z.1) (fun z => z.2.2)
          refine ⟨3, _, kL_add hst r0 (kX3_add hst r0 f0 t0 t1 t2 t3 t4 t5 t6 t7 t8 u0 u1 u2 u3 u4 l0 l1 l2 fl (ha) (hm5) (hck) (hm12) (by omega) (hch)) (fun _ _ _ q => ((by have := q.1.2; omega) : False).elim) (fun E h' n' q => Or.inr (Or.inr ((hEx E h' n' q)))), ?_⟩
          rintro rv h' n' (⟨E, hq9, hdx⟩ | ⟨v, o2, hw, q, -⟩)
          · have hE9 := hEx E h' n' hq9
            obtain ⟨-, rfl, rfl⟩ := hq9
            subst hE9
            have hrv : rv = some (.int (nI 3)) := by
              rcases hdx with ⟨z, w⟩ | ⟨z, w⟩ | ⟨z, w⟩
              · exact absurd z (by decide)
              · exact absurd z (by decide)
              · exact w
            refine ⟨hrv, rfl, by decide, 0, 0, _, o, by decide, by decide, h61, ⟨_, m0⟩, kX5_add_f hst m0 m41 m42 m43 m44 m45 q46 q47 q48 q49 q50 s0 s1 s2 s3 s4 q56 q57 q58 q59 q60 (hn62) (hm5) (ha) (by omega) (hcp) (by omega), ?_⟩
            intro rv2 h'' n'' hp
            exact ⟨_, hp.1.symm, Nat.le_of_eq hp.2.1, hp.fin hC (fun _ _ => rfl) hM h61 hG hn62, fun z => absurd z (by decide)⟩
          · exact ((by have := q.1.2; omega) : False).elim
      · have hEx : ∀ (E : String) (h' : gw_H) (n' : Nat), ((¬ b &&& (b >>> 1) = 0 ∧ E = "java/lang/IllegalArgumentException") ∨ (b &&& (b >>> 1) = 0 ∧ ln a = 12 ∧ E = "java/lang/IllegalStateException")) ∧ h' = h ∧ n' = n → E = "java/lang/IllegalArgumentException" := fun E h' n' q => q.1.elim (fun z => z.2) (fun z => absurd z.1 hcp)
        refine ⟨2, _, kL_add hst r0 (kX3_add hst r0 f0 t0 t1 t2 t3 t4 t5 t6 t7 t8 u0 u1 u2 u3 u4 l0 l1 l2 fl (ha) (hm5) (hck) (hm12) (by omega) (hch)) (fun _ _ _ q => (hcp q.1.1 : False).elim) (fun E h' n' q => Or.inr (Or.inl (hEx E h' n' q))), ?_⟩
        rintro rv h' n' (⟨E, hq9, hdx⟩ | ⟨v, o2, hw, q, -⟩)
        · have hE9 := hEx E h' n' hq9
          obtain ⟨-, rfl, rfl⟩ := hq9
          subst hE9
          have hrv : rv = some (.int (nI 2)) := by
            rcases hdx with ⟨z, w⟩ | ⟨z, w⟩ | ⟨z, w⟩
            · exact absurd z (by decide)
            · exact w
            · exact absurd z (by decide)
          refine ⟨hrv, rfl, by decide, 0, 0, _, o, by decide, by decide, h61, ⟨_, m0⟩, kX5_add_p hst m0 m41 m42 m43 m44 m45 q46 q47 q48 q49 q50 s0 s1 s2 s3 s4 q56 q57 q58 q59 q60 (hn62) (hm5) (ha) (by omega) (hcp), ?_⟩
          intro rv2 h'' n'' hp
          exact ⟨_, hp.1.symm, Nat.le_of_eq hp.2.1, hp.fin hC (fun _ _ => rfl) hM h61 hG hn62, fun z => absurd z (by decide)⟩
        · exact (hcp q.1.1 : False).elim
set_option maxRecDepth 20000 in
theorem pr_about {l : Launch} {K : gw_K} (hst : l.stackTraces = false) {h : gw_H} {n : Nat} {thr : Int32} {o : Nat → Int64} (hI : INV h n thr o) (a b : Int32) : PAIR l K h n mL_about hhL_about mX5_about [.ref 0, .int a, .int b, .ref 61] [.ref 40, .int a, .int b] := by
  obtain ⟨hn62, h61, wd, sk, vt, ti, fa, st, ws, rc, dy, mc, tch, frs, ln, lds, rws, frx, hos, chs, dgs, cs, hC, hX, hM, hG⟩ := hI
  obtain ⟨r0, f0, f1, f2, f3, f4, f5, ⟨tf, f6⟩, f7, f8, ⟨owd, osk, ovt, oti, ofa, otf, ost, ows, orc, ody, t0, t1, t2, t3, t4, t5, t6, t7, t8⟩, ⟨pl, mv, ma, sn, cm, rr, u0, u1, u2, u3, u4⟩, fl, fli⟩ := id hC
  obtain ⟨len, ady, co, dg, rw_, go, we, avt, ati, afa, ast, m0, q46, q47, q48, q49, q50, q56, q57, q58, q59, q60⟩ := id hX
  obtain ⟨m41, m42, m43, m44, m45, s0, s1, s2, s3, s4⟩ := id hM
  obtain ⟨hrc, hm5, hsi, hvp, hsk, hln, hlk, hv, hlo⟩ := id hG
  have hso : ∀ r, r < rc → seatOK (st r) := fun r hr => (hsi r hr).1
  have hl : ∀ k c, k < mc → c = 25 + 3 * k → h c = oB 0 [.ref (c + 1), .ref (c + 2), .int (nI (ln k)), .int (nI (lds k)), .int (rws k), .int (frx k), .int (hos k)] ∧ h (c + 1) = aI 12 (chs k) ∧ h (c + 2) = aI 6 (dgs k) := fun k c hk hc => fli k c (by omega) hc
  have hmc : ∀ m, m < mc → ln m ≤ 12 ∧ codI (chM cs ln m) (crM (chM cs ln m) (ln m) * ln m) = nI 1865 := fun m hm => ⟨hln m (by omega), (hlo m (by omega)).2.2.2⟩
  rcases pk_ix a (n := mc) (by omega) with h1 | h1 | ⟨a, ha, rfl⟩
  · refine ⟨1, _, kL_about hst r0 (kX3_about_m hst r0 f0 (Or.inl h1)) (fun _ _ _ q => q.elim) (fun E h' n' q => q.1), ?_⟩
    rintro rv h' n' (⟨E, ⟨rfl, rfl, rfl⟩, hdx⟩ | ⟨v, o2, hw, q, -⟩)
    · have hrv : rv = some (.int (nI 1)) := hdx.2
      refine ⟨hrv, rfl, by decide, 0, 0, _, o, by decide, by decide, h61, ⟨_, m0⟩, kX5_about_m hst m0 m41 m42 m43 m44 m45 q46 q47 q48 q49 q50 s0 s1 s2 s3 s4 q56 q57 q58 q59 q60 (hn62) (hm5) (Or.inl h1), ?_⟩
      intro rv2 h'' n'' hp
      exact ⟨_, hp.1.symm, Nat.le_of_eq hp.2.1, hp.fin hC (fun _ _ => rfl) hM h61 hG hn62, fun z => absurd z (by decide)⟩
    · exact q.elim
  · refine ⟨1, _, kL_about hst r0 (kX3_about_m hst r0 f0 (Or.inr h1)) (fun _ _ _ q => q.elim) (fun E h' n' q => q.1), ?_⟩
    rintro rv h' n' (⟨E, ⟨rfl, rfl, rfl⟩, hdx⟩ | ⟨v, o2, hw, q, -⟩)
    · have hrv : rv = some (.int (nI 1)) := hdx.2
      refine ⟨hrv, rfl, by decide, 0, 0, _, o, by decide, by decide, h61, ⟨_, m0⟩, kX5_about_m hst m0 m41 m42 m43 m44 m45 q46 q47 q48 q49 q50 s0 s1 s2 s3 s4 q56 q57 q58 q59 q60 (hn62) (hm5) (Or.inr h1), ?_⟩
      intro rv2 h'' n'' hp
      exact ⟨_, hp.1.symm, Nat.le_of_eq hp.2.1, hp.fin hC (fun _ _ => rfl) hM h61 hG hn62, fun z => absurd z (by decide)⟩
    · exact q.elim
  · obtain ⟨c, hck⟩ : ∃ c, c = 25 + 3 * a := ⟨_, rfl⟩
    obtain ⟨l0, l1, l2⟩ := fli a c (by omega) hck
    have hm12 := hln a (by omega)
    have hch := hv a (by omega)
    obtain ⟨hmn, hcr⟩ := hmc a ha
    have hlkv := hlk a (by omega)
    rcases pk_ix b (n := 6) (by omega) with h1 | h1 | ⟨b, hb, rfl⟩
    · refine ⟨1, _, kL_about hst r0 (kX3_about_w hst r0 f0 l0 l1 l2 fl (ha) (hm5) (hck) (hm12) (Or.inl h1)) (fun _ _ _ q => q.elim) (fun E h' n' q => q.1), ?_⟩
      rintro rv h' n' (⟨E, ⟨rfl, rfl, rfl⟩, hdx⟩ | ⟨v, o2, hw, q, -⟩)
      · have hrv : rv = some (.int (nI 1)) := hdx.2
        refine ⟨hrv, rfl, by decide, 0, 0, _, o, by decide, by decide, h61, ⟨_, m0⟩, kX5_about_w hst m0 m41 m42 m43 m44 m45 q46 q47 q48 q49 q50 s0 s1 s2 s3 s4 q56 q57 q58 q59 q60 (hn62) (hm5) (ha) (Or.inl h1), ?_⟩
        intro rv2 h'' n'' hp
        exact ⟨_, hp.1.symm, Nat.le_of_eq hp.2.1, hp.fin hC (fun _ _ => rfl) hM h61 hG hn62, fun z => absurd z (by decide)⟩
      · exact q.elim
    · refine ⟨1, _, kL_about hst r0 (kX3_about_w hst r0 f0 l0 l1 l2 fl (ha) (hm5) (hck) (hm12) (Or.inr h1)) (fun _ _ _ q => q.elim) (fun E h' n' q => q.1), ?_⟩
      rintro rv h' n' (⟨E, ⟨rfl, rfl, rfl⟩, hdx⟩ | ⟨v, o2, hw, q, -⟩)
      · have hrv : rv = some (.int (nI 1)) := hdx.2
        refine ⟨hrv, rfl, by decide, 0, 0, _, o, by decide, by decide, h61, ⟨_, m0⟩, kX5_about_w hst m0 m41 m42 m43 m44 m45 q46 q47 q48 q49 q50 s0 s1 s2 s3 s4 q56 q57 q58 q59 q60 (hn62) (hm5) (ha) (Or.inr h1), ?_⟩
        intro rv2 h'' n'' hp
        exact ⟨_, hp.1.symm, Nat.le_of_eq hp.2.1, hp.fin hC (fun _ _ => rfl) hM h61 hG hn62, fun z => absurd z (by decide)⟩
      · exact q.elim
    · refine ⟨0, _, kL_about hst r0 (kX3_about hst r0 f0 l0 l1 l2 fl (ha) (hm5) (hck) (hm12) (hb)) (fun rv h' n' q => ⟨_, o, q.1, by rw [q.2.1]; exact h61⟩) (fun _ _ _ q => q.elim), ?_⟩
      rintro rv h' n' (⟨E, q, -⟩ | ⟨v, o2, hw, q, ho2, rfl, rfl⟩)
      · exact q.elim
      · obtain ⟨qv, qh, qn⟩ := q
        subst qn
        have hC2 := (hC).tr40 (fun j _ => congrFun qh j)
        have tr : ∀ j, 40 ≤ j → j ≤ 60 → (hs hw 61 (aJ 1 (vp_updL o2 0 v.toInt64))) j = h j := fun j h1 h2 => (hs_ne (by omega)).trans ((congrFun qh j).trans (rfl))
        have hC3 := hC2.tr40 (h' := hs hw 61 (aJ 1 (vp_updL o2 0 v.toInt64))) (fun j hj => hs_ne (by omega))
        have hM3 := hM.tr (h' := hs hw 61 (aJ 1 (vp_updL o2 0 v.toInt64))) (fun j hj => tr j (by omega) (by omega))
        refine ⟨rfl, rfl, by decide, 1, 6, _, _, by decide, by decide, hs_eq _ _ _, ⟨_, (tr 40 (by decide) (by decide)).trans m0⟩, kX5_about hst ((tr 40 (by decide) (by decide)).trans m0) ((tr 41 (by decide) (by decide)).trans m41) ((tr 42 (by decide) (by decide)).trans m42) ((tr 43 (by decide) (by decide)).trans m43) ((tr 44 (by decide) (by decide)).trans m44) ((tr 45 (by decide) (by decide)).trans m45) ((tr 46 (by decide) (by decide)).trans q46) ((tr 47 (by decide) (by decide)).trans q47) ((tr 48 (by decide) (by decide)).trans q48) ((tr 49 (by decide) (by decide)).trans q49) ((tr 50 (by decide) (by decide)).trans q50) ((tr 51 (by decide) (by decide)).trans s0) ((tr (51 + 1) (by decide) (by decide)).trans s1) ((tr (51 + 2) (by decide) (by decide)).trans s2) ((tr (51 + 3) (by decide) (by decide)).trans s3) ((tr (51 + 4) (by decide) (by decide)).trans s4) ((tr 56 (by decide) (by decide)).trans q56) ((tr (56 + 1) (by decide) (by decide)).trans q57) ((tr (56 + 2) (by decide) (by decide)).trans q58) ((tr (56 + 3) (by decide) (by decide)).trans q59) ((tr (56 + 4) (by decide) (by decide)).trans q60) (hn62) (hm5) (ha) (hmn) (hcr) (hb), ?_⟩
        intro rv2 h'' n'' hp
        have hf := hp.fin hC3 (fun _ _ => rfl) hM3 (hs_eq _ _ _) (hG) (by omega)
        exact ⟨_, hp.1.symm, by have := hp.2.1; omega, hf, fun _ => pk_uLs.trans (congrArg Int32.toInt64 ((Value.int.inj (Option.some.inj qv)).trans ((hlo a (by omega)).2.1 b hb)))⟩
set_option maxRecDepth 20000 in
theorem pr_dodges {l : Launch} {K : gw_K} (hst : l.stackTraces = false) {h : gw_H} {n : Nat} {thr : Int32} {o : Nat → Int64} (hI : INV h n thr o) (a b : Int32) : PAIR l K h n mL_dodges hhL_dodges mX5_dodges [.ref 0, .int a, .int b, .ref 61] [.ref 40, .int a, .int b] := by
  obtain ⟨hn62, h61, wd, sk, vt, ti, fa, st, ws, rc, dy, mc, tch, frs, ln, lds, rws, frx, hos, chs, dgs, cs, hC, hX, hM, hG⟩ := hI
  obtain ⟨r0, f0, f1, f2, f3, f4, f5, ⟨tf, f6⟩, f7, f8, ⟨owd, osk, ovt, oti, ofa, otf, ost, ows, orc, ody, t0, t1, t2, t3, t4, t5, t6, t7, t8⟩, ⟨pl, mv, ma, sn, cm, rr, u0, u1, u2, u3, u4⟩, fl, fli⟩ := id hC
  obtain ⟨len, ady, co, dg, rw_, go, we, avt, ati, afa, ast, m0, q46, q47, q48, q49, q50, q56, q57, q58, q59, q60⟩ := id hX
  obtain ⟨m41, m42, m43, m44, m45, s0, s1, s2, s3, s4⟩ := id hM
  obtain ⟨hrc, hm5, hsi, hvp, hsk, hln, hlk, hv, hlo⟩ := id hG
  have hso : ∀ r, r < rc → seatOK (st r) := fun r hr => (hsi r hr).1
  have hl : ∀ k c, k < mc → c = 25 + 3 * k → h c = oB 0 [.ref (c + 1), .ref (c + 2), .int (nI (ln k)), .int (nI (lds k)), .int (rws k), .int (frx k), .int (hos k)] ∧ h (c + 1) = aI 12 (chs k) ∧ h (c + 2) = aI 6 (dgs k) := fun k c hk hc => fli k c (by omega) hc
  have hmc : ∀ m, m < mc → ln m ≤ 12 ∧ codI (chM cs ln m) (crM (chM cs ln m) (ln m) * ln m) = nI 1865 := fun m hm => ⟨hln m (by omega), (hlo m (by omega)).2.2.2⟩
  rcases pk_ix a (n := mc) (by omega) with h1 | h1 | ⟨a, ha, rfl⟩
  · refine ⟨1, _, kL_dodges hst r0 (kX3_dodges_m hst r0 f0 (Or.inl h1)) (fun _ _ _ q => q.elim) (fun E h' n' q => q.1), ?_⟩
    rintro rv h' n' (⟨E, ⟨rfl, rfl, rfl⟩, hdx⟩ | ⟨v, o2, hw, q, -⟩)
    · have hrv : rv = some (.int (nI 1)) := hdx.2
      refine ⟨hrv, rfl, by decide, 0, 0, _, o, by decide, by decide, h61, ⟨_, m0⟩, kX5_dodges_m hst m0 m41 m42 m43 m44 m45 q46 q47 q48 q49 q50 s0 s1 s2 s3 s4 q56 q57 q58 q59 q60 (hn62) (hm5) (Or.inl h1), ?_⟩
      intro rv2 h'' n'' hp
      exact ⟨_, hp.1.symm, Nat.le_of_eq hp.2.1, hp.fin hC (fun _ _ => rfl) hM h61 hG hn62, fun z => absurd z (by decide)⟩
    · exact q.elim
  · refine ⟨1, _, kL_dodges hst r0 (kX3_dodges_m hst r0 f0 (Or.inr h1)) (fun _ _ _ q => q.elim) (fun E h' n' q => q.1), ?_⟩
    rintro rv h' n' (⟨E, ⟨rfl, rfl, rfl⟩, hdx⟩ | ⟨v, o2, hw, q, -⟩)
    · have hrv : rv = some (.int (nI 1)) := hdx.2
      refine ⟨hrv, rfl, by decide, 0, 0, _, o, by decide, by decide, h61, ⟨_, m0⟩, kX5_dodges_m hst m0 m41 m42 m43 m44 m45 q46 q47 q48 q49 q50 s0 s1 s2 s3 s4 q56 q57 q58 q59 q60 (hn62) (hm5) (Or.inr h1), ?_⟩
      intro rv2 h'' n'' hp
      exact ⟨_, hp.1.symm, Nat.le_of_eq hp.2.1, hp.fin hC (fun _ _ => rfl) hM h61 hG hn62, fun z => absurd z (by decide)⟩
    · exact q.elim
  · obtain ⟨c, hck⟩ : ∃ c, c = 25 + 3 * a := ⟨_, rfl⟩
    obtain ⟨l0, l1, l2⟩ := fli a c (by omega) hck
    have hm12 := hln a (by omega)
    have hch := hv a (by omega)
    obtain ⟨hmn, hcr⟩ := hmc a ha
    have hlkv := hlk a (by omega)
    rcases pk_ix b (n := 6) (by omega) with h1 | h1 | ⟨b, hb, rfl⟩
    · refine ⟨1, _, kL_dodges hst r0 (kX3_dodges_w hst r0 f0 l0 l1 l2 fl (ha) (hm5) (hck) (hm12) (Or.inl h1)) (fun _ _ _ q => q.elim) (fun E h' n' q => q.1), ?_⟩
      rintro rv h' n' (⟨E, ⟨rfl, rfl, rfl⟩, hdx⟩ | ⟨v, o2, hw, q, -⟩)
      · have hrv : rv = some (.int (nI 1)) := hdx.2
        refine ⟨hrv, rfl, by decide, 0, 0, _, o, by decide, by decide, h61, ⟨_, m0⟩, kX5_dodges_w hst m0 m41 m42 m43 m44 m45 q46 q47 q48 q49 q50 s0 s1 s2 s3 s4 q56 q57 q58 q59 q60 (hn62) (hm5) (ha) (Or.inl h1), ?_⟩
        intro rv2 h'' n'' hp
        exact ⟨_, hp.1.symm, Nat.le_of_eq hp.2.1, hp.fin hC (fun _ _ => rfl) hM h61 hG hn62, fun z => absurd z (by decide)⟩
      · exact q.elim
    · refine ⟨1, _, kL_dodges hst r0 (kX3_dodges_w hst r0 f0 l0 l1 l2 fl (ha) (hm5) (hck) (hm12) (Or.inr h1)) (fun _ _ _ q => q.elim) (fun E h' n' q => q.1), ?_⟩
      rintro rv h' n' (⟨E, ⟨rfl, rfl, rfl⟩, hdx⟩ | ⟨v, o2, hw, q, -⟩)
      · have hrv : rv = some (.int (nI 1)) := hdx.2
        refine ⟨hrv, rfl, by decide, 0, 0, _, o, by decide, by decide, h61, ⟨_, m0⟩, kX5_dodges_w hst m0 m41 m42 m43 m44 m45 q46 q47 q48 q49 q50 s0 s1 s2 s3 s4 q56 q57 q58 q59 q60 (hn62) (hm5) (ha) (Or.inr h1), ?_⟩
        intro rv2 h'' n'' hp
        exact ⟨_, hp.1.symm, Nat.le_of_eq hp.2.1, hp.fin hC (fun _ _ => rfl) hM h61 hG hn62, fun z => absurd z (by decide)⟩
      · exact q.elim
    · refine ⟨0, _, kL_dodges hst r0 (kX3_dodges hst r0 f0 l0 l1 l2 fl (ha) (hm5) (hck) (hm12) (hb)) (fun rv h' n' q => ⟨_, o, q.1, by rw [q.2.1]; exact h61⟩) (fun _ _ _ q => q.elim), ?_⟩
      rintro rv h' n' (⟨E, q, -⟩ | ⟨v, o2, hw, q, ho2, rfl, rfl⟩)
      · exact q.elim
      · obtain ⟨qv, qh, qn⟩ := q
        subst qn
        have hC2 := (hC).tr40 (fun j _ => congrFun qh j)
        have tr : ∀ j, 40 ≤ j → j ≤ 60 → (hs hw 61 (aJ 1 (vp_updL o2 0 v.toInt64))) j = h j := fun j h1 h2 => (hs_ne (by omega)).trans ((congrFun qh j).trans (rfl))
        have hC3 := hC2.tr40 (h' := hs hw 61 (aJ 1 (vp_updL o2 0 v.toInt64))) (fun j hj => hs_ne (by omega))
        have hM3 := hM.tr (h' := hs hw 61 (aJ 1 (vp_updL o2 0 v.toInt64))) (fun j hj => tr j (by omega) (by omega))
        refine ⟨rfl, rfl, by decide, 0, 0, _, _, by decide, by decide, hs_eq _ _ _, ⟨_, (tr 40 (by decide) (by decide)).trans m0⟩, kX5_dodges hst ((tr 40 (by decide) (by decide)).trans m0) ((tr 41 (by decide) (by decide)).trans m41) ((tr 42 (by decide) (by decide)).trans m42) ((tr 43 (by decide) (by decide)).trans m43) ((tr 44 (by decide) (by decide)).trans m44) ((tr 45 (by decide) (by decide)).trans m45) ((tr 46 (by decide) (by decide)).trans q46) ((tr 47 (by decide) (by decide)).trans q47) ((tr 48 (by decide) (by decide)).trans q48) ((tr 49 (by decide) (by decide)).trans q49) ((tr 50 (by decide) (by decide)).trans q50) ((tr 51 (by decide) (by decide)).trans s0) ((tr (51 + 1) (by decide) (by decide)).trans s1) ((tr (51 + 2) (by decide) (by decide)).trans s2) ((tr (51 + 3) (by decide) (by decide)).trans s3) ((tr (51 + 4) (by decide) (by decide)).trans s4) ((tr 56 (by decide) (by decide)).trans q56) ((tr (56 + 1) (by decide) (by decide)).trans q57) ((tr (56 + 2) (by decide) (by decide)).trans q58) ((tr (56 + 3) (by decide) (by decide)).trans q59) ((tr (56 + 4) (by decide) (by decide)).trans q60) (hn62) (hm5) (ha) (hmn) (hcr) (hb), ?_⟩
        intro rv2 h'' n'' hp
        have hf := hp.fin hC3 (fun _ _ => rfl) hM3 (hs_eq _ _ _) (hG) (by omega)
        exact ⟨_, hp.1.symm, by have := hp.2.1; omega, hf, fun _ => pk_uLs.trans (congrArg Int32.toInt64 ((Value.int.inj (Option.some.inj qv)).trans ((hlo a (by omega)).2.2.1 b hb)))⟩
set_option maxRecDepth 20000 in
theorem pr_row {l : Launch} {K : gw_K} (hst : l.stackTraces = false) {h : gw_H} {n : Nat} {thr : Int32} {o : Nat → Int64} (hI : INV h n thr o) (a b : Int32) : PAIR l K h n mL_row hhL_row mX5_row [.ref 0, .int a, .int b, .ref 61] [.ref 40, .int a, .int b] := by
  obtain ⟨hn62, h61, wd, sk, vt, ti, fa, st, ws, rc, dy, mc, tch, frs, ln, lds, rws, frx, hos, chs, dgs, cs, hC, hX, hM, hG⟩ := hI
  obtain ⟨r0, f0, f1, f2, f3, f4, f5, ⟨tf, f6⟩, f7, f8, ⟨owd, osk, ovt, oti, ofa, otf, ost, ows, orc, ody, t0, t1, t2, t3, t4, t5, t6, t7, t8⟩, ⟨pl, mv, ma, sn, cm, rr, u0, u1, u2, u3, u4⟩, fl, fli⟩ := id hC
  obtain ⟨len, ady, co, dg, rw_, go, we, avt, ati, afa, ast, m0, q46, q47, q48, q49, q50, q56, q57, q58, q59, q60⟩ := id hX
  obtain ⟨m41, m42, m43, m44, m45, s0, s1, s2, s3, s4⟩ := id hM
  obtain ⟨hrc, hm5, hsi, hvp, hsk, hln, hlk, hv, hlo⟩ := id hG
  have hso : ∀ r, r < rc → seatOK (st r) := fun r hr => (hsi r hr).1
  have hl : ∀ k c, k < mc → c = 25 + 3 * k → h c = oB 0 [.ref (c + 1), .ref (c + 2), .int (nI (ln k)), .int (nI (lds k)), .int (rws k), .int (frx k), .int (hos k)] ∧ h (c + 1) = aI 12 (chs k) ∧ h (c + 2) = aI 6 (dgs k) := fun k c hk hc => fli k c (by omega) hc
  have hmc : ∀ m, m < mc → ln m ≤ 12 ∧ codI (chM cs ln m) (crM (chM cs ln m) (ln m) * ln m) = nI 1865 := fun m hm => ⟨hln m (by omega), (hlo m (by omega)).2.2.2⟩
  rcases pk_ix a (n := mc) (by omega) with h1 | h1 | ⟨a, ha, rfl⟩
  · refine ⟨1, _, kL_row hst r0 (kX3_row_m hst r0 f0 (Or.inl h1)) (fun _ _ _ q => q.elim) (fun E h' n' q => Or.inl q.1), ?_⟩
    rintro rv h' n' (⟨E, ⟨rfl, rfl, rfl⟩, hdx⟩ | ⟨v, o2, hw, q, -⟩)
    · have hrv : rv = some (.int (nI 1)) := by
        rcases hdx with ⟨z, w⟩ | ⟨z, w⟩ | ⟨z, w⟩
        · exact w
        · exact absurd z (by decide)
        · exact absurd z (by decide)
      refine ⟨hrv, rfl, by decide, 0, 0, _, o, by decide, by decide, h61, ⟨_, m0⟩, kX5_row_m hst m0 m41 m42 m43 m44 m45 q46 q47 q48 q49 q50 s0 s1 s2 s3 s4 q56 q57 q58 q59 q60 (hn62) (hm5) (Or.inl h1), ?_⟩
      intro rv2 h'' n'' hp
      exact ⟨_, hp.1.symm, Nat.le_of_eq hp.2.1, hp.fin hC (fun _ _ => rfl) hM h61 hG hn62, fun z => absurd z (by decide)⟩
    · exact q.elim
  · refine ⟨1, _, kL_row hst r0 (kX3_row_m hst r0 f0 (Or.inr h1)) (fun _ _ _ q => q.elim) (fun E h' n' q => Or.inl q.1), ?_⟩
    rintro rv h' n' (⟨E, ⟨rfl, rfl, rfl⟩, hdx⟩ | ⟨v, o2, hw, q, -⟩)
    · have hrv : rv = some (.int (nI 1)) := by
        rcases hdx with ⟨z, w⟩ | ⟨z, w⟩ | ⟨z, w⟩
        · exact w
        · exact absurd z (by decide)
        · exact absurd z (by decide)
      refine ⟨hrv, rfl, by decide, 0, 0, _, o, by decide, by decide, h61, ⟨_, m0⟩, kX5_row_m hst m0 m41 m42 m43 m44 m45 q46 q47 q48 q49 q50 s0 s1 s2 s3 s4 q56 q57 q58 q59 q60 (hn62) (hm5) (Or.inr h1), ?_⟩
      intro rv2 h'' n'' hp
      exact ⟨_, hp.1.symm, Nat.le_of_eq hp.2.1, hp.fin hC (fun _ _ => rfl) hM h61 hG hn62, fun z => absurd z (by decide)⟩
    · exact q.elim
  · obtain ⟨c, hck⟩ : ∃ c, c = 25 + 3 * a := ⟨_, rfl⟩
    obtain ⟨l0, l1, l2⟩ := fli a c (by omega) hck
    have hm12 := hln a (by omega)
    have hch := hv a (by omega)
    obtain ⟨hmn, hcr⟩ := hmc a ha
    have hlkv := hlk a (by omega)
    rcases Classical.em (b < nI 0 ∨ nI 200 < b) with h2 | h2
    · refine ⟨2, _, kL_row hst r0 (kX3_row_w hst r0 f0 l0 l1 l2 fl (ha) (hm5) (hck) (hm12) (h2)) (fun _ _ _ q => q.elim) (fun E h' n' q => Or.inr (Or.inl q.1)), ?_⟩
      rintro rv h' n' (⟨E, ⟨rfl, rfl, rfl⟩, hdx⟩ | ⟨v, o2, hw, q, -⟩)
      · have hrv : rv = some (.int (nI 2)) := by
          rcases hdx with ⟨z, w⟩ | ⟨z, w⟩ | ⟨z, w⟩
          · exact absurd z (by decide)
          · exact w
          · exact absurd z (by decide)
        refine ⟨hrv, rfl, by decide, 0, 0, _, o, by decide, by decide, h61, ⟨_, m0⟩, kX5_row_w hst m0 m41 m42 m43 m44 m45 q46 q47 q48 q49 q50 s0 s1 s2 s3 s4 q56 q57 q58 q59 q60 (hn62) (hm5) (ha) (h2), ?_⟩
        intro rv2 h'' n'' hp
        exact ⟨_, hp.1.symm, Nat.le_of_eq hp.2.1, hp.fin hC (fun _ _ => rfl) hM h61 hG hn62, fun z => absurd z (by decide)⟩
      · exact q.elim
    · obtain ⟨b, hb9, rfl⟩ := gn_in (by omega) h2
      rcases Nat.eq_zero_or_pos (ln a) with h5 | h5
      · refine ⟨3, _, kL_row hst r0 (kX3_row_e hst r0 f0 l0 l1 l2 fl (ha) (hm5) (hck) (hm12) (hb9) (h5)) (fun _ _ _ q => q.elim) (fun E h' n' q => Or.inr (Or.inr (q.1))), ?_⟩
        rintro rv h' n' (⟨E, ⟨rfl, rfl, rfl⟩, hdx⟩ | ⟨v, o2, hw, q, -⟩)
        · have hrv : rv = some (.int (nI 3)) := by
            rcases hdx with ⟨z, w⟩ | ⟨z, w⟩ | ⟨z, w⟩
            · exact absurd z (by decide)
            · exact absurd z (by decide)
            · exact w
          refine ⟨hrv, rfl, by decide, 0, 0, _, o, by decide, by decide, h61, ⟨_, m0⟩, kX5_row_e hst m0 m41 m42 m43 m44 m45 q46 q47 q48 q49 q50 s0 s1 s2 s3 s4 q56 q57 q58 q59 q60 (hn62) (hm5) (ha) (hb9) (h5), ?_⟩
          intro rv2 h'' n'' hp
          exact ⟨_, hp.1.symm, Nat.le_of_eq hp.2.1, hp.fin hC (fun _ _ => rfl) hM h61 hG hn62, fun z => absurd z (by decide)⟩
        · exact q.elim
      · refine ⟨0, _, kL_row hst r0 (kX3_row hst r0 f0 t0 t1 t2 t3 t4 t5 t6 t7 t8 u0 u1 u2 u3 u4 l0 l1 l2 fl (ha) (hm5) (hck) (hm12) (hb9) (h5) (hch)) (fun rv h' n' q => ⟨_, o, q.1.symm, (q.2.2.1 61 (by omega)).trans (h61)⟩) (fun _ _ _ q => q.elim), ?_⟩
        rintro rv h' n' (⟨E, q, -⟩ | ⟨v, o2, hw, q, ho2, rfl, rfl⟩)
        · exact q.elim
        · obtain ⟨qv, qn, qK, qT, qU⟩ := q
          subst qn
          have hC2 := (hC).tr (fun j hj => qK j (by omega)) qT qU
          have tr : ∀ j, 40 ≤ j → j ≤ 60 → (hs hw 61 (aJ 1 (vp_updL o2 0 v.toInt64))) j = h j := fun j h1 h2 => (hs_ne (by omega)).trans ((qK j (by omega)).trans (rfl))
          have hC3 := hC2.tr40 (h' := hs hw 61 (aJ 1 (vp_updL o2 0 v.toInt64))) (fun j hj => hs_ne (by omega))
          have hM3 := hM.tr (h' := hs hw 61 (aJ 1 (vp_updL o2 0 v.toInt64))) (fun j hj => tr j (by omega) (by omega))
          refine ⟨rfl, rfl, by decide, 0, 0, _, _, by decide, by decide, hs_eq _ _ _, ⟨_, (tr 40 (by decide) (by decide)).trans m0⟩, kX5_row hst ((tr 40 (by decide) (by decide)).trans m0) ((tr 41 (by decide) (by decide)).trans m41) ((tr 42 (by decide) (by decide)).trans m42) ((tr 43 (by decide) (by decide)).trans m43) ((tr 44 (by decide) (by decide)).trans m44) ((tr 45 (by decide) (by decide)).trans m45) ((tr 46 (by decide) (by decide)).trans q46) ((tr 47 (by decide) (by decide)).trans q47) ((tr 48 (by decide) (by decide)).trans q48) ((tr 49 (by decide) (by decide)).trans q49) ((tr 50 (by decide) (by decide)).trans q50) ((tr 51 (by decide) (by decide)).trans s0) ((tr (51 + 1) (by decide) (by decide)).trans s1) ((tr (51 + 2) (by decide) (by decide)).trans s2) ((tr (51 + 3) (by decide) (by decide)).trans s3) ((tr (51 + 4) (by decide) (by decide)).trans s4) ((tr 56 (by decide) (by decide)).trans q56) ((tr (56 + 1) (by decide) (by decide)).trans q57) ((tr (56 + 2) (by decide) (by decide)).trans q58) ((tr (56 + 3) (by decide) (by decide)).trans q59) ((tr (56 + 4) (by decide) (by decide)).trans q60) (hn62) (hm5) (ha) (hb9) (h5) (hmn), ?_⟩
          intro rv2 h'' n'' hp
          have hf := hp.fin hC3 (fun _ _ => rfl) hM3 (hs_eq _ _ _) (hG) (by omega)
          exact ⟨_, hp.1.symm, by have := hp.2.1; omega, hf, fun _ => pk_uLs.trans (congrArg Int32.toInt64 ((Value.int.inj (Option.some.inj qv)).symm.trans ((row_eq h5 (vmod hch h5)).trans (by rw [chM_eq hlkv h5]))))⟩
set_option maxRecDepth 20000 in
theorem pr_ring {l : Launch} {K : gw_K} (hst : l.stackTraces = false) {h : gw_H} {n : Nat} {thr : Int32} {o : Nat → Int64} (hI : INV h n thr o) (a b d : Int32) : PAIR l K h n mL_ring hhL_ring mX5_ring [.ref 0, .int a, .int b, .int d, .ref 61] [.ref 40, .int a, .int b, .int d] := by
  obtain ⟨hn62, h61, wd, sk, vt, ti, fa, st, ws, rc, dy, mc, tch, frs, ln, lds, rws, frx, hos, chs, dgs, cs, hC, hX, hM, hG⟩ := hI
  obtain ⟨r0, f0, f1, f2, f3, f4, f5, ⟨tf, f6⟩, f7, f8, ⟨owd, osk, ovt, oti, ofa, otf, ost, ows, orc, ody, t0, t1, t2, t3, t4, t5, t6, t7, t8⟩, ⟨pl, mv, ma, sn, cm, rr, u0, u1, u2, u3, u4⟩, fl, fli⟩ := id hC
  obtain ⟨len, ady, co, dg, rw_, go, we, avt, ati, afa, ast, m0, q46, q47, q48, q49, q50, q56, q57, q58, q59, q60⟩ := id hX
  obtain ⟨m41, m42, m43, m44, m45, s0, s1, s2, s3, s4⟩ := id hM
  obtain ⟨hrc, hm5, hsi, hvp, hsk, hln, hlk, hv, hlo⟩ := id hG
  have hso : ∀ r, r < rc → seatOK (st r) := fun r hr => (hsi r hr).1
  have hl : ∀ k c, k < mc → c = 25 + 3 * k → h c = oB 0 [.ref (c + 1), .ref (c + 2), .int (nI (ln k)), .int (nI (lds k)), .int (rws k), .int (frx k), .int (hos k)] ∧ h (c + 1) = aI 12 (chs k) ∧ h (c + 2) = aI 6 (dgs k) := fun k c hk hc => fli k c (by omega) hc
  have hmc : ∀ m, m < mc → ln m ≤ 12 ∧ codI (chM cs ln m) (crM (chM cs ln m) (ln m) * ln m) = nI 1865 := fun m hm => ⟨hln m (by omega), (hlo m (by omega)).2.2.2⟩
  rcases pk_ix a (n := 3) (by omega) with h1 | h1 | ⟨a, ha, rfl⟩
  · refine ⟨1, _, kL_ring hst r0 (kX3_ring_b hst r0 f0 (Or.inl h1)) (fun _ _ _ q => q.elim) (fun E h' n' q => Or.inl q.1), ?_⟩
    rintro rv h' n' (⟨E, ⟨rfl, rfl, rfl⟩, hdx⟩ | ⟨v, o2, hw, q, -⟩)
    · have hrv : rv = some (.int (nI 1)) := by
        rcases hdx with ⟨z, w⟩ | ⟨z, w⟩ | ⟨z, w⟩
        · exact w
        · exact absurd z (by decide)
        · exact absurd z (by decide)
      refine ⟨hrv, rfl, by decide, 0, 0, _, o, by decide, by decide, h61, ⟨_, m0⟩, kX5_ring_b hst m0 m41 m42 m43 m44 m45 q46 q47 q48 q49 q50 s0 s1 s2 s3 s4 q56 q57 q58 q59 q60 (hn62) (Or.inl h1), ?_⟩
      intro rv2 h'' n'' hp
      exact ⟨_, hp.1.symm, Nat.le_of_eq hp.2.1, hp.fin hC (fun _ _ => rfl) hM h61 hG hn62, fun z => absurd z (by decide)⟩
    · exact q.elim
  · refine ⟨1, _, kL_ring hst r0 (kX3_ring_b hst r0 f0 (Or.inr h1)) (fun _ _ _ q => q.elim) (fun E h' n' q => Or.inl q.1), ?_⟩
    rintro rv h' n' (⟨E, ⟨rfl, rfl, rfl⟩, hdx⟩ | ⟨v, o2, hw, q, -⟩)
    · have hrv : rv = some (.int (nI 1)) := by
        rcases hdx with ⟨z, w⟩ | ⟨z, w⟩ | ⟨z, w⟩
        · exact w
        · exact absurd z (by decide)
        · exact absurd z (by decide)
      refine ⟨hrv, rfl, by decide, 0, 0, _, o, by decide, by decide, h61, ⟨_, m0⟩, kX5_ring_b hst m0 m41 m42 m43 m44 m45 q46 q47 q48 q49 q50 s0 s1 s2 s3 s4 q56 q57 q58 q59 q60 (hn62) (Or.inr h1), ?_⟩
      intro rv2 h'' n'' hp
      exact ⟨_, hp.1.symm, Nat.le_of_eq hp.2.1, hp.fin hC (fun _ _ => rfl) hM h61 hG hn62, fun z => absurd z (by decide)⟩
    · exact q.elim
  · rcases pk_ix b (n := mc) (by omega) with h1 | h1 | ⟨b, hb, rfl⟩
    · refine ⟨1, _, kL_ring hst r0 (kX3_ring_m hst r0 f0 (ha) (Or.inl h1)) (fun _ _ _ q => q.elim) (fun E h' n' q => Or.inl q.1), ?_⟩
      rintro rv h' n' (⟨E, ⟨rfl, rfl, rfl⟩, hdx⟩ | ⟨v, o2, hw, q, -⟩)
      · have hrv : rv = some (.int (nI 1)) := by
          rcases hdx with ⟨z, w⟩ | ⟨z, w⟩ | ⟨z, w⟩
          · exact w
          · exact absurd z (by decide)
          · exact absurd z (by decide)
        refine ⟨hrv, rfl, by decide, 0, 0, _, o, by decide, by decide, h61, ⟨_, m0⟩, kX5_ring_m hst m0 m41 m42 m43 m44 m45 q46 q47 q48 q49 q50 s0 s1 s2 s3 s4 q56 q57 q58 q59 q60 (hn62) (hm5) (ha) (Or.inl h1), ?_⟩
        intro rv2 h'' n'' hp
        exact ⟨_, hp.1.symm, Nat.le_of_eq hp.2.1, hp.fin hC (fun _ _ => rfl) hM h61 hG hn62, fun z => absurd z (by decide)⟩
      · exact q.elim
    · refine ⟨1, _, kL_ring hst r0 (kX3_ring_m hst r0 f0 (ha) (Or.inr h1)) (fun _ _ _ q => q.elim) (fun E h' n' q => Or.inl q.1), ?_⟩
      rintro rv h' n' (⟨E, ⟨rfl, rfl, rfl⟩, hdx⟩ | ⟨v, o2, hw, q, -⟩)
      · have hrv : rv = some (.int (nI 1)) := by
          rcases hdx with ⟨z, w⟩ | ⟨z, w⟩ | ⟨z, w⟩
          · exact w
          · exact absurd z (by decide)
          · exact absurd z (by decide)
        refine ⟨hrv, rfl, by decide, 0, 0, _, o, by decide, by decide, h61, ⟨_, m0⟩, kX5_ring_m hst m0 m41 m42 m43 m44 m45 q46 q47 q48 q49 q50 s0 s1 s2 s3 s4 q56 q57 q58 q59 q60 (hn62) (hm5) (ha) (Or.inr h1), ?_⟩
        intro rv2 h'' n'' hp
        exact ⟨_, hp.1.symm, Nat.le_of_eq hp.2.1, hp.fin hC (fun _ _ => rfl) hM h61 hG hn62, fun z => absurd z (by decide)⟩
      · exact q.elim
    · obtain ⟨c, hck⟩ : ∃ c, c = 25 + 3 * b := ⟨_, rfl⟩
      obtain ⟨l0, l1, l2⟩ := fli b c (by omega) hck
      have hm12 := hln b (by omega)
      have hch := hv b (by omega)
      obtain ⟨hmn, hcr⟩ := hmc b hb
      have hlkv := hlk b (by omega)
      rcases Classical.em (d < nI 1 ∨ nI 12 < d) with h2 | h2
      · refine ⟨2, _, kL_ring hst r0 (kX3_ring_l hst r0 f0 l0 l1 l2 fl (hb) (hm5) (hck) (hm12) (ha) (h2)) (fun _ _ _ q => q.elim) (fun E h' n' q => Or.inr (Or.inl q.1)), ?_⟩
        rintro rv h' n' (⟨E, ⟨rfl, rfl, rfl⟩, hdx⟩ | ⟨v, o2, hw, q, -⟩)
        · have hrv : rv = some (.int (nI 2)) := by
            rcases hdx with ⟨z, w⟩ | ⟨z, w⟩ | ⟨z, w⟩
            · exact absurd z (by decide)
            · exact w
            · exact absurd z (by decide)
          refine ⟨hrv, rfl, by decide, 0, 0, _, o, by decide, by decide, h61, ⟨_, m0⟩, kX5_ring_l hst m0 m41 m42 m43 m44 m45 q46 q47 q48 q49 q50 s0 s1 s2 s3 s4 q56 q57 q58 q59 q60 (hn62) (hm5) (ha) (hb) (h2), ?_⟩
          intro rv2 h'' n'' hp
          exact ⟨_, hp.1.symm, Nat.le_of_eq hp.2.1, hp.fin hC (fun _ _ => rfl) hM h61 hG hn62, fun z => absurd z (by decide)⟩
        · exact q.elim
      · obtain ⟨d, hd1, hd12, rfl⟩ := gn_in1 (by omega) (by omega) h2
        rcases Classical.em (0 < ln b ∧ freshI st ti rc (nI a) = nI 6) with hcd | hcd
        · have hLm := Nat.mul_le_mul hd12 hm12
          obtain ⟨e1, e2, e3, e4⟩ := ring_eq (st := st) (sk := sk) (vt := vt) (ti := ti) (fa := fa) (ch := chs b) (ma := ma) (rc := rc) (b := a) (m := ln b) (L := d) (vmod hch hcd.1) (by omega) ha hso
          have ec := chM_eq hlkv hcd.1
          refine ⟨0, _, kL_ring hst r0 (kX3_ring hst r0 f0 f1 f2 f3 f4 f5 f6 f7 f8 t0 t1 t2 t3 t4 t5 t6 t7 t8 u0 u1 u2 u3 u4 l0 l1 l2 fl (hrc) (hb) (hm5) (hck) (hm12) (ha) (hd1) (hd12) (hso) (hch)) (fun rv h' n' q => ⟨_, o, q.2.1.symm, (q.2.2.2.1 61 (by omega)).trans ((hs_ne (by omega)).trans ((hs_ne (by omega)).trans ((hs_ne (by omega)).trans ((hs_ne (by omega)).trans ((hs_ne (by omega)).trans (h61))))))⟩) (fun _ _ _ q => absurd hcd q.1), ?_⟩
          rintro rv h' n' (⟨E, q, -⟩ | ⟨v, o2, hw, q, ho2, rfl, rfl⟩)
          · exact absurd hcd q.1
          · obtain ⟨qv, qn, qK, qT, qU⟩ := q.2
            subst qn
            have hC2 := (((((hC.s_mob _ _ _).s_vt _).s_ti _).s_fa _).s_tf _).tr (fun j hj => qK j (by omega)) qT qU
            have tr : ∀ j, 40 ≤ j → j ≤ 60 → (hs hw 61 (aJ 1 (vp_updL o2 0 v.toInt64))) j = h j := fun j h1 h2 => (hs_ne (by omega)).trans ((qK j (by omega)).trans ((hs_ne (by omega)).trans ((hs_ne (by omega)).trans ((hs_ne (by omega)).trans ((hs_ne (by omega)).trans ((hs_ne (by omega)).trans (rfl)))))))
            have hC3 := hC2.tr40 (h' := hs hw 61 (aJ 1 (vp_updL o2 0 v.toInt64))) (fun j hj => hs_ne (by omega))
            have hM3 := hM.tr (h' := hs hw 61 (aJ 1 (vp_updL o2 0 v.toInt64))) (fun j hj => tr j (by omega) (by omega))
            refine ⟨rfl, rfl, by decide, 0, 0, _, _, by decide, by decide, hs_eq _ _ _, ⟨_, (tr 40 (by decide) (by decide)).trans m0⟩, kX5_ring hst ((tr 40 (by decide) (by decide)).trans m0) ((tr 41 (by decide) (by decide)).trans m41) ((tr 42 (by decide) (by decide)).trans m42) ((tr 43 (by decide) (by decide)).trans m43) ((tr 44 (by decide) (by decide)).trans m44) ((tr 45 (by decide) (by decide)).trans m45) ((tr 46 (by decide) (by decide)).trans q46) ((tr 47 (by decide) (by decide)).trans q47) ((tr 48 (by decide) (by decide)).trans q48) ((tr 49 (by decide) (by decide)).trans q49) ((tr 50 (by decide) (by decide)).trans q50) ((tr 51 (by decide) (by decide)).trans s0) ((tr (51 + 1) (by decide) (by decide)).trans s1) ((tr (51 + 2) (by decide) (by decide)).trans s2) ((tr (51 + 3) (by decide) (by decide)).trans s3) ((tr (51 + 4) (by decide) (by decide)).trans s4) ((tr 56 (by decide) (by decide)).trans q56) ((tr (56 + 1) (by decide) (by decide)).trans q57) ((tr (56 + 2) (by decide) (by decide)).trans q58) ((tr (56 + 3) (by decide) (by decide)).trans q59) ((tr (56 + 4) (by decide) (by decide)).trans q60) (hn62) (hm5) (hrc) (hsi) (ha) (hb) (hmn) (hd1) (hd12) (hcd), ?_⟩
            intro rv2 h'' n'' hp
            rw [ec, ← e1, ← e2, ← e3, ← e4] at hp
            have hf := hp.fin hC3 (fun j hj => (hs_ne (by omega)).trans ((hs_ne (by omega)).trans ((hs_ne (by omega)).trans (rfl)))) (((hM3.s_vt _).s_ti _).s_fa _) ((hs_ne (by omega)).trans ((hs_ne (by omega)).trans ((hs_ne (by omega)).trans (hs_eq _ _ _)))) (⟨hrc, hm5, hsi, vtI_pos hvp, hsk, hln, hlk, hv, hlo⟩) (by omega)
            exact ⟨_, hp.1.symm, by have := hp.2.1; omega, hf, fun _ => pk_uLs.trans (congrArg Int32.toInt64 ((Value.int.inj (Option.some.inj qv)).symm.trans (rfl)))⟩
        · refine ⟨3, _, kL_ring hst r0 (kX3_ring hst r0 f0 f1 f2 f3 f4 f5 f6 f7 f8 t0 t1 t2 t3 t4 t5 t6 t7 t8 u0 u1 u2 u3 u4 l0 l1 l2 fl (hrc) (hb) (hm5) (hck) (hm12) (ha) (hd1) (hd12) (hso) (hch)) (fun _ _ _ q => absurd q.1 hcd) (fun E h' n' q => Or.inr (Or.inr (q.2.1))), ?_⟩
          rintro rv h' n' (⟨E, ⟨hcx, rfl, rfl, rfl⟩, hdx⟩ | ⟨v, o2, hw, q, -⟩)
          · have hrv : rv = some (.int (nI 3)) := by
              rcases hdx with ⟨z, w⟩ | ⟨z, w⟩ | ⟨z, w⟩
              · exact absurd z (by decide)
              · exact absurd z (by decide)
              · exact w
            refine ⟨hrv, rfl, by decide, 0, 0, _, o, by decide, by decide, h61, ⟨_, m0⟩, kX5_ring_f hst m0 m41 m42 m43 m44 m45 q46 q47 q48 q49 q50 s0 s1 s2 s3 s4 q56 q57 q58 q59 q60 (hn62) (hm5) (hrc) (hsi) (ha) (hb) (hmn) (hd1) (hd12) (hcd), ?_⟩
            intro rv2 h'' n'' hp
            exact ⟨_, hp.1.symm, Nat.le_of_eq hp.2.1, hp.fin hC (fun _ _ => rfl) hM h61 hG hn62, fun z => absurd z (by decide)⟩
          · exact absurd q.1 hcd
set_option maxRecDepth 20000 in
theorem pr_would {l : Launch} {K : gw_K} (hst : l.stackTraces = false) {h : gw_H} {n : Nat} {thr : Int32} {o : Nat → Int64} (hI : INV h n thr o) (a b d : Int32) : PAIR l K h n mL_would hhL_would mX5_would [.ref 0, .int a, .int b, .int d, .ref 61] [.ref 40, .int a, .int b, .int d] := by
  obtain ⟨hn62, h61, wd, sk, vt, ti, fa, st, ws, rc, dy, mc, tch, frs, ln, lds, rws, frx, hos, chs, dgs, cs, hC, hX, hM, hG⟩ := hI
  obtain ⟨r0, f0, f1, f2, f3, f4, f5, ⟨tf, f6⟩, f7, f8, ⟨owd, osk, ovt, oti, ofa, otf, ost, ows, orc, ody, t0, t1, t2, t3, t4, t5, t6, t7, t8⟩, ⟨pl, mv, ma, sn, cm, rr, u0, u1, u2, u3, u4⟩, fl, fli⟩ := id hC
  obtain ⟨len, ady, co, dg, rw_, go, we, avt, ati, afa, ast, m0, q46, q47, q48, q49, q50, q56, q57, q58, q59, q60⟩ := id hX
  obtain ⟨m41, m42, m43, m44, m45, s0, s1, s2, s3, s4⟩ := id hM
  obtain ⟨hrc, hm5, hsi, hvp, hsk, hln, hlk, hv, hlo⟩ := id hG
  have hso : ∀ r, r < rc → seatOK (st r) := fun r hr => (hsi r hr).1
  have hl : ∀ k c, k < mc → c = 25 + 3 * k → h c = oB 0 [.ref (c + 1), .ref (c + 2), .int (nI (ln k)), .int (nI (lds k)), .int (rws k), .int (frx k), .int (hos k)] ∧ h (c + 1) = aI 12 (chs k) ∧ h (c + 2) = aI 6 (dgs k) := fun k c hk hc => fli k c (by omega) hc
  have hmc : ∀ m, m < mc → ln m ≤ 12 ∧ codI (chM cs ln m) (crM (chM cs ln m) (ln m) * ln m) = nI 1865 := fun m hm => ⟨hln m (by omega), (hlo m (by omega)).2.2.2⟩
  rcases pk_ix a (n := 3) (by omega) with h1 | h1 | ⟨a, ha, rfl⟩
  · refine ⟨1, _, kL_would hst r0 (kX3_would_b hst r0 f0 (Or.inl h1)) (fun _ _ _ q => q.elim) (fun E h' n' q => Or.inl q.1), ?_⟩
    rintro rv h' n' (⟨E, ⟨rfl, rfl, rfl⟩, hdx⟩ | ⟨v, o2, hw, q, -⟩)
    · have hrv : rv = some (.int (nI 1)) := by
        rcases hdx with ⟨z, w⟩ | ⟨z, w⟩
        · exact w
        · exact absurd z (by decide)
      refine ⟨hrv, rfl, by decide, 0, 0, _, o, by decide, by decide, h61, ⟨_, m0⟩, kX5_would_b hst m0 m41 m42 m43 m44 m45 q46 q47 q48 q49 q50 s0 s1 s2 s3 s4 q56 q57 q58 q59 q60 (hn62) (Or.inl h1), ?_⟩
      intro rv2 h'' n'' hp
      exact ⟨_, hp.1.symm, Nat.le_of_eq hp.2.1, hp.fin hC (fun _ _ => rfl) hM h61 hG hn62, fun z => absurd z (by decide)⟩
    · exact q.elim
  · refine ⟨1, _, kL_would hst r0 (kX3_would_b hst r0 f0 (Or.inr h1)) (fun _ _ _ q => q.elim) (fun E h' n' q => Or.inl q.1), ?_⟩
    rintro rv h' n' (⟨E, ⟨rfl, rfl, rfl⟩, hdx⟩ | ⟨v, o2, hw, q, -⟩)
    · have hrv : rv = some (.int (nI 1)) := by
        rcases hdx with ⟨z, w⟩ | ⟨z, w⟩
        · exact w
        · exact absurd z (by decide)
      refine ⟨hrv, rfl, by decide, 0, 0, _, o, by decide, by decide, h61, ⟨_, m0⟩, kX5_would_b hst m0 m41 m42 m43 m44 m45 q46 q47 q48 q49 q50 s0 s1 s2 s3 s4 q56 q57 q58 q59 q60 (hn62) (Or.inr h1), ?_⟩
      intro rv2 h'' n'' hp
      exact ⟨_, hp.1.symm, Nat.le_of_eq hp.2.1, hp.fin hC (fun _ _ => rfl) hM h61 hG hn62, fun z => absurd z (by decide)⟩
    · exact q.elim
  · rcases pk_ix b (n := mc) (by omega) with h1 | h1 | ⟨b, hb, rfl⟩
    · refine ⟨1, _, kL_would hst r0 (kX3_would_m hst r0 f0 (ha) (Or.inl h1)) (fun _ _ _ q => q.elim) (fun E h' n' q => Or.inl q.1), ?_⟩
      rintro rv h' n' (⟨E, ⟨rfl, rfl, rfl⟩, hdx⟩ | ⟨v, o2, hw, q, -⟩)
      · have hrv : rv = some (.int (nI 1)) := by
          rcases hdx with ⟨z, w⟩ | ⟨z, w⟩
          · exact w
          · exact absurd z (by decide)
        refine ⟨hrv, rfl, by decide, 0, 0, _, o, by decide, by decide, h61, ⟨_, m0⟩, kX5_would_m hst m0 m41 m42 m43 m44 m45 q46 q47 q48 q49 q50 s0 s1 s2 s3 s4 q56 q57 q58 q59 q60 (hn62) (hm5) (ha) (Or.inl h1), ?_⟩
        intro rv2 h'' n'' hp
        exact ⟨_, hp.1.symm, Nat.le_of_eq hp.2.1, hp.fin hC (fun _ _ => rfl) hM h61 hG hn62, fun z => absurd z (by decide)⟩
      · exact q.elim
    · refine ⟨1, _, kL_would hst r0 (kX3_would_m hst r0 f0 (ha) (Or.inr h1)) (fun _ _ _ q => q.elim) (fun E h' n' q => Or.inl q.1), ?_⟩
      rintro rv h' n' (⟨E, ⟨rfl, rfl, rfl⟩, hdx⟩ | ⟨v, o2, hw, q, -⟩)
      · have hrv : rv = some (.int (nI 1)) := by
          rcases hdx with ⟨z, w⟩ | ⟨z, w⟩
          · exact w
          · exact absurd z (by decide)
        refine ⟨hrv, rfl, by decide, 0, 0, _, o, by decide, by decide, h61, ⟨_, m0⟩, kX5_would_m hst m0 m41 m42 m43 m44 m45 q46 q47 q48 q49 q50 s0 s1 s2 s3 s4 q56 q57 q58 q59 q60 (hn62) (hm5) (ha) (Or.inr h1), ?_⟩
        intro rv2 h'' n'' hp
        exact ⟨_, hp.1.symm, Nat.le_of_eq hp.2.1, hp.fin hC (fun _ _ => rfl) hM h61 hG hn62, fun z => absurd z (by decide)⟩
      · exact q.elim
    · obtain ⟨c, hck⟩ : ∃ c, c = 25 + 3 * b := ⟨_, rfl⟩
      obtain ⟨l0, l1, l2⟩ := fli b c (by omega) hck
      have hm12 := hln b (by omega)
      have hch := hv b (by omega)
      obtain ⟨hmn, hcr⟩ := hmc b hb
      have hlkv := hlk b (by omega)
      rcases Classical.em (d < nI 1 ∨ nI 12 < d) with h2 | h2
      · refine ⟨2, _, kL_would hst r0 (kX3_would_l hst r0 f0 l0 l1 l2 fl (hb) (hm5) (hck) (hm12) (ha) (h2)) (fun _ _ _ q => q.elim) (fun E h' n' q => Or.inr (q.1)), ?_⟩
        rintro rv h' n' (⟨E, ⟨rfl, rfl, rfl⟩, hdx⟩ | ⟨v, o2, hw, q, -⟩)
        · have hrv : rv = some (.int (nI 2)) := by
            rcases hdx with ⟨z, w⟩ | ⟨z, w⟩
            · exact absurd z (by decide)
            · exact w
          refine ⟨hrv, rfl, by decide, 0, 0, _, o, by decide, by decide, h61, ⟨_, m0⟩, kX5_would_l hst m0 m41 m42 m43 m44 m45 q46 q47 q48 q49 q50 s0 s1 s2 s3 s4 q56 q57 q58 q59 q60 (hn62) (hm5) (ha) (hb) (h2), ?_⟩
          intro rv2 h'' n'' hp
          exact ⟨_, hp.1.symm, Nat.le_of_eq hp.2.1, hp.fin hC (fun _ _ => rfl) hM h61 hG hn62, fun z => absurd z (by decide)⟩
        · exact q.elim
      · obtain ⟨d, hd1, hd12, rfl⟩ := gn_in1 (by omega) (by omega) h2
        have hLm := Nat.mul_le_mul hd12 hm12
        refine ⟨0, _, kL_would hst r0 (kX3_would hst r0 f0 f1 f2 f3 f4 f5 f7 f8 t0 t1 t2 t3 t4 t5 t6 t7 t8 u0 u1 u2 u3 u4 l0 l1 l2 fl (hrc) (hb) (hm5) (hck) (hm12) (ha) (hd1) (hd12) (hso) (hch)) (fun rv h' n' q => ⟨_, o, q.1.symm, (q.2.2.1 61 (by omega)).trans (h61)⟩) (fun _ _ _ q => q.elim), ?_⟩
        rintro rv h' n' (⟨E, q, -⟩ | ⟨v, o2, hw, q, ho2, rfl, rfl⟩)
        · exact q.elim
        · obtain ⟨qv, qn, qK, qT, qU⟩ := q
          subst qn
          have hC2 := (hC).tr (fun j hj => qK j (by omega)) qT qU
          have tr : ∀ j, 40 ≤ j → j ≤ 60 → (hs hw 61 (aJ 1 (vp_updL o2 0 v.toInt64))) j = h j := fun j h1 h2 => (hs_ne (by omega)).trans ((qK j (by omega)).trans (rfl))
          have hC3 := hC2.tr40 (h' := hs hw 61 (aJ 1 (vp_updL o2 0 v.toInt64))) (fun j hj => hs_ne (by omega))
          have hM3 := hM.tr (h' := hs hw 61 (aJ 1 (vp_updL o2 0 v.toInt64))) (fun j hj => tr j (by omega) (by omega))
          refine ⟨rfl, rfl, by decide, 0, 0, _, _, by decide, by decide, hs_eq _ _ _, ⟨_, (tr 40 (by decide) (by decide)).trans m0⟩, kX5_would hst ((tr 40 (by decide) (by decide)).trans m0) ((tr 41 (by decide) (by decide)).trans m41) ((tr 42 (by decide) (by decide)).trans m42) ((tr 43 (by decide) (by decide)).trans m43) ((tr 44 (by decide) (by decide)).trans m44) ((tr 45 (by decide) (by decide)).trans m45) ((tr 46 (by decide) (by decide)).trans q46) ((tr 47 (by decide) (by decide)).trans q47) ((tr 48 (by decide) (by decide)).trans q48) ((tr 49 (by decide) (by decide)).trans q49) ((tr 50 (by decide) (by decide)).trans q50) ((tr 51 (by decide) (by decide)).trans s0) ((tr (51 + 1) (by decide) (by decide)).trans s1) ((tr (51 + 2) (by decide) (by decide)).trans s2) ((tr (51 + 3) (by decide) (by decide)).trans s3) ((tr (51 + 4) (by decide) (by decide)).trans s4) ((tr 56 (by decide) (by decide)).trans q56) ((tr (56 + 1) (by decide) (by decide)).trans q57) ((tr (56 + 2) (by decide) (by decide)).trans q58) ((tr (56 + 3) (by decide) (by decide)).trans q59) ((tr (56 + 4) (by decide) (by decide)).trans q60) (hn62) (hm5) (hrc) (hsi) (ha) (hb) (hmn) (hd1) (hd12), ?_⟩
          intro rv2 h'' n'' hp
          have hf := hp.fin hC3 (fun _ _ => rfl) hM3 (hs_eq _ _ _) (hG) (by omega)
          exact ⟨_, hp.1.symm, by have := hp.2.1; omega, hf, fun _ => pk_uLs.trans (congrArg Int32.toInt64 ((Value.int.inj (Option.some.inj qv)).symm.trans ((brought_eq (fun h0 => vmod hch h0) (by omega) ha hso).trans (mbr_cg fun h0 => (chM_eq hlkv h0).symm))))⟩
set_option maxRecDepth 20000 in
theorem pr_advise {l : Launch} {K : gw_K} (hst : l.stackTraces = false) {h : gw_H} {n : Nat} {thr : Int32} {o : Nat → Int64} (hI : INV h n thr o) (a : Int32) : PAIR l K h n mL_advise hhL_advise mX5_advise [.ref 0, .int a, .ref 61] [.ref 40, .int a] := by
  obtain ⟨hn62, h61, wd, sk, vt, ti, fa, st, ws, rc, dy, mc, tch, frs, ln, lds, rws, frx, hos, chs, dgs, cs, hC, hX, hM, hG⟩ := hI
  obtain ⟨r0, f0, f1, f2, f3, f4, f5, ⟨tf, f6⟩, f7, f8, ⟨owd, osk, ovt, oti, ofa, otf, ost, ows, orc, ody, t0, t1, t2, t3, t4, t5, t6, t7, t8⟩, ⟨pl, mv, ma, sn, cm, rr, u0, u1, u2, u3, u4⟩, fl, fli⟩ := id hC
  obtain ⟨len, ady, co, dg, rw_, go, we, avt, ati, afa, ast, m0, q46, q47, q48, q49, q50, q56, q57, q58, q59, q60⟩ := id hX
  obtain ⟨m41, m42, m43, m44, m45, s0, s1, s2, s3, s4⟩ := id hM
  obtain ⟨hrc, hm5, hsi, hvp, hsk, hln, hlk, hv, hlo⟩ := id hG
  have hso : ∀ r, r < rc → seatOK (st r) := fun r hr => (hsi r hr).1
  have hl : ∀ k c, k < mc → c = 25 + 3 * k → h c = oB 0 [.ref (c + 1), .ref (c + 2), .int (nI (ln k)), .int (nI (lds k)), .int (rws k), .int (frx k), .int (hos k)] ∧ h (c + 1) = aI 12 (chs k) ∧ h (c + 2) = aI 6 (dgs k) := fun k c hk hc => fli k c (by omega) hc
  have hmc : ∀ m, m < mc → ln m ≤ 12 ∧ codI (chM cs ln m) (crM (chM cs ln m) (ln m) * ln m) = nI 1865 := fun m hm => ⟨hln m (by omega), (hlo m (by omega)).2.2.2⟩
  rcases pk_ix a (n := 3) (by omega) with h1 | h1 | ⟨a, ha, rfl⟩
  · refine ⟨1, _, kL_advise hst r0 (kX3_advise_b hst r0 f0 (Or.inl h1)) (fun _ _ _ q => q.elim) (fun E h' n' q => q.1), ?_⟩
    rintro rv h' n' (⟨E, ⟨rfl, rfl, rfl⟩, hdx⟩ | ⟨v, o2, hw, q, -⟩)
    · have hrv : rv = some (.int (nI 1)) := hdx.2
      refine ⟨hrv, rfl, by decide, 0, 0, _, o, by decide, by decide, h61, ⟨_, m0⟩, kX5_advise_b hst m0 m41 m42 m43 m44 m45 q46 q47 q48 q49 q50 s0 s1 s2 s3 s4 q56 q57 q58 q59 q60 (hn62) (Or.inl h1), ?_⟩
      intro rv2 h'' n'' hp
      exact ⟨_, hp.1.symm, Nat.le_of_eq hp.2.1, hp.fin hC (fun _ _ => rfl) hM h61 hG hn62, fun z => absurd z (by decide)⟩
    · exact q.elim
  · refine ⟨1, _, kL_advise hst r0 (kX3_advise_b hst r0 f0 (Or.inr h1)) (fun _ _ _ q => q.elim) (fun E h' n' q => q.1), ?_⟩
    rintro rv h' n' (⟨E, ⟨rfl, rfl, rfl⟩, hdx⟩ | ⟨v, o2, hw, q, -⟩)
    · have hrv : rv = some (.int (nI 1)) := hdx.2
      refine ⟨hrv, rfl, by decide, 0, 0, _, o, by decide, by decide, h61, ⟨_, m0⟩, kX5_advise_b hst m0 m41 m42 m43 m44 m45 q46 q47 q48 q49 q50 s0 s1 s2 s3 s4 q56 q57 q58 q59 q60 (hn62) (Or.inr h1), ?_⟩
      intro rv2 h'' n'' hp
      exact ⟨_, hp.1.symm, Nat.le_of_eq hp.2.1, hp.fin hC (fun _ _ => rfl) hM h61 hG hn62, fun z => absurd z (by decide)⟩
    · exact q.elim
  · refine ⟨0, _, kL_advise hst r0 (kX3_advise hst r0 f0 f1 f2 f3 f4 f5 f7 f8 t0 t1 t2 t3 t4 t5 t6 t7 t8 u0 u1 u2 u3 u4 fl (hl) (hm5) (fun k hk => hln k (by omega)) (fun k hk => by have := crM_le (chM cs ln k) (ln k); rw [(hlo k (by omega)).1]; exact this) (fun k hk => hv k (by omega)) (hrc) (ha) (hso)) (fun rv h' n' q => ⟨_, o, q.1.symm, (q.2.2.1 61 (by omega)).trans (h61)⟩) (fun _ _ _ q => q.elim), ?_⟩
    rintro rv h' n' (⟨E, q, -⟩ | ⟨v, o2, hw, q, ho2, rfl, rfl⟩)
    · exact q.elim
    · obtain ⟨qv, qn, qK, qT, qU⟩ := q
      subst qn
      have hC2 := (hC).tr (fun j hj => qK j (by omega)) qT qU
      have tr : ∀ j, 40 ≤ j → j ≤ 60 → (hs hw 61 (aJ 1 (vp_updL o2 0 v.toInt64))) j = h j := fun j h1 h2 => (hs_ne (by omega)).trans ((qK j (by omega)).trans (rfl))
      have hC3 := hC2.tr40 (h' := hs hw 61 (aJ 1 (vp_updL o2 0 v.toInt64))) (fun j hj => hs_ne (by omega))
      have hM3 := hM.tr (h' := hs hw 61 (aJ 1 (vp_updL o2 0 v.toInt64))) (fun j hj => tr j (by omega) (by omega))
      refine ⟨rfl, rfl, by decide, 0, 0, _, _, by decide, by decide, hs_eq _ _ _, ⟨_, (tr 40 (by decide) (by decide)).trans m0⟩, kX5_advise hst ((tr 40 (by decide) (by decide)).trans m0) ((tr 41 (by decide) (by decide)).trans m41) ((tr 42 (by decide) (by decide)).trans m42) ((tr 43 (by decide) (by decide)).trans m43) ((tr 44 (by decide) (by decide)).trans m44) ((tr 45 (by decide) (by decide)).trans m45) ((tr 46 (by decide) (by decide)).trans q46) ((tr 47 (by decide) (by decide)).trans q47) ((tr 48 (by decide) (by decide)).trans q48) ((tr 49 (by decide) (by decide)).trans q49) ((tr 50 (by decide) (by decide)).trans q50) ((tr 51 (by decide) (by decide)).trans s0) ((tr (51 + 1) (by decide) (by decide)).trans s1) ((tr (51 + 2) (by decide) (by decide)).trans s2) ((tr (51 + 3) (by decide) (by decide)).trans s3) ((tr (51 + 4) (by decide) (by decide)).trans s4) ((tr 56 (by decide) (by decide)).trans q56) ((tr (56 + 1) (by decide) (by decide)).trans q57) ((tr (56 + 2) (by decide) (by decide)).trans q58) ((tr (56 + 3) (by decide) (by decide)).trans q59) ((tr (56 + 4) (by decide) (by decide)).trans q60) (hn62) (hm5) (hrc) (hsi) (ha) (hmc), ?_⟩
      intro rv2 h'' n'' hp
      have hf := hp.fin hC3 (fun _ _ => rfl) hM3 (hs_eq _ _ _) (hG) (by omega)
      exact ⟨_, hp.1.symm, by have := hp.2.1; omega, hf, fun _ => pk_uLs.trans (congrArg Int32.toInt64 ((Value.int.inj (Option.some.inj qv)).symm.trans (congrArg Prod.fst (adv_eq ha hso (fun k hk => hln k (by omega)) (fun k hk => hlk k (by omega)) (fun k hk => hv k (by omega)) fun k hk => (hlo k (by omega)).1))))⟩
set_option maxRecDepth 20000 in
theorem pr_count {l : Launch} {K : gw_K} (hst : l.stackTraces = false) {h : gw_H} {n : Nat} {thr : Int32} {o : Nat → Int64} (hI : INV h n thr o) (a : Int32) : PAIR l K h n mL_count hhL_count mX5_count [.ref 0, .int a, .ref 61] [.ref 40, .int a] := by
  obtain ⟨hn62, h61, wd, sk, vt, ti, fa, st, ws, rc, dy, mc, tch, frs, ln, lds, rws, frx, hos, chs, dgs, cs, hC, hX, hM, hG⟩ := hI
  obtain ⟨r0, f0, f1, f2, f3, f4, f5, ⟨tf, f6⟩, f7, f8, ⟨owd, osk, ovt, oti, ofa, otf, ost, ows, orc, ody, t0, t1, t2, t3, t4, t5, t6, t7, t8⟩, ⟨pl, mv, ma, sn, cm, rr, u0, u1, u2, u3, u4⟩, fl, fli⟩ := id hC
  obtain ⟨len, ady, co, dg, rw_, go, we, avt, ati, afa, ast, m0, q46, q47, q48, q49, q50, q56, q57, q58, q59, q60⟩ := id hX
  obtain ⟨m41, m42, m43, m44, m45, s0, s1, s2, s3, s4⟩ := id hM
  obtain ⟨hrc, hm5, hsi, hvp, hsk, hln, hlk, hv, hlo⟩ := id hG
  have hso : ∀ r, r < rc → seatOK (st r) := fun r hr => (hsi r hr).1
  have hl : ∀ k c, k < mc → c = 25 + 3 * k → h c = oB 0 [.ref (c + 1), .ref (c + 2), .int (nI (ln k)), .int (nI (lds k)), .int (rws k), .int (frx k), .int (hos k)] ∧ h (c + 1) = aI 12 (chs k) ∧ h (c + 2) = aI 6 (dgs k) := fun k c hk hc => fli k c (by omega) hc
  have hmc : ∀ m, m < mc → ln m ≤ 12 ∧ codI (chM cs ln m) (crM (chM cs ln m) (ln m) * ln m) = nI 1865 := fun m hm => ⟨hln m (by omega), (hlo m (by omega)).2.2.2⟩
  rcases pk_ix a (n := 9) (by omega) with h1 | h1 | ⟨a, ha, rfl⟩
  · refine ⟨1, _, kL_count hst r0 (kX3_count_w hst r0 f0 (Or.inl h1)) (fun _ _ _ q => q.elim) (fun E h' n' q => q.1), ?_⟩
    rintro rv h' n' (⟨E, ⟨rfl, rfl, rfl⟩, hdx⟩ | ⟨v, o2, hw, q, -⟩)
    · have hrv : rv = some (.int (nI 1)) := hdx.2
      refine ⟨hrv, rfl, by decide, 0, 0, _, o, by decide, by decide, h61, ⟨_, m0⟩, kX5_count_w hst m0 m41 m42 m43 m44 m45 q46 q47 q48 q49 q50 s0 s1 s2 s3 s4 q56 q57 q58 q59 q60 (hn62) (Or.inl h1), ?_⟩
      intro rv2 h'' n'' hp
      exact ⟨_, hp.1.symm, Nat.le_of_eq hp.2.1, hp.fin hC (fun _ _ => rfl) hM h61 hG hn62, fun z => absurd z (by decide)⟩
    · exact q.elim
  · refine ⟨1, _, kL_count hst r0 (kX3_count_w hst r0 f0 (Or.inr h1)) (fun _ _ _ q => q.elim) (fun E h' n' q => q.1), ?_⟩
    rintro rv h' n' (⟨E, ⟨rfl, rfl, rfl⟩, hdx⟩ | ⟨v, o2, hw, q, -⟩)
    · have hrv : rv = some (.int (nI 1)) := hdx.2
      refine ⟨hrv, rfl, by decide, 0, 0, _, o, by decide, by decide, h61, ⟨_, m0⟩, kX5_count_w hst m0 m41 m42 m43 m44 m45 q46 q47 q48 q49 q50 s0 s1 s2 s3 s4 q56 q57 q58 q59 q60 (hn62) (Or.inr h1), ?_⟩
      intro rv2 h'' n'' hp
      exact ⟨_, hp.1.symm, Nat.le_of_eq hp.2.1, hp.fin hC (fun _ _ => rfl) hM h61 hG hn62, fun z => absurd z (by decide)⟩
    · exact q.elim
  · refine ⟨0, _, kL_count hst r0 (kX3_count hst r0 f0 f3 f5 f7 (hrc) (ha)) (fun rv h' n' q => ⟨_, o, q.1, by rw [q.2.1]; exact h61⟩) (fun _ _ _ q => q.elim), ?_⟩
    rintro rv h' n' (⟨E, q, -⟩ | ⟨v, o2, hw, q, ho2, rfl, rfl⟩)
    · exact q.elim
    · obtain ⟨qv, qh, qn⟩ := q
      subst qn
      have hC2 := (hC).tr40 (fun j _ => congrFun qh j)
      have tr : ∀ j, 40 ≤ j → j ≤ 60 → (hs hw 61 (aJ 1 (vp_updL o2 0 v.toInt64))) j = h j := fun j h1 h2 => (hs_ne (by omega)).trans ((congrFun qh j).trans (rfl))
      have hC3 := hC2.tr40 (h' := hs hw 61 (aJ 1 (vp_updL o2 0 v.toInt64))) (fun j hj => hs_ne (by omega))
      have hM3 := hM.tr (h' := hs hw 61 (aJ 1 (vp_updL o2 0 v.toInt64))) (fun j hj => tr j (by omega) (by omega))
      refine ⟨rfl, rfl, by decide, 1, 9, _, _, by decide, by decide, hs_eq _ _ _, ⟨_, (tr 40 (by decide) (by decide)).trans m0⟩, kX5_count hst ((tr 40 (by decide) (by decide)).trans m0) ((tr 41 (by decide) (by decide)).trans m41) ((tr 42 (by decide) (by decide)).trans m42) ((tr 43 (by decide) (by decide)).trans m43) ((tr 44 (by decide) (by decide)).trans m44) ((tr 45 (by decide) (by decide)).trans m45) ((tr 46 (by decide) (by decide)).trans q46) ((tr 47 (by decide) (by decide)).trans q47) ((tr 48 (by decide) (by decide)).trans q48) ((tr 49 (by decide) (by decide)).trans q49) ((tr 50 (by decide) (by decide)).trans q50) ((tr 51 (by decide) (by decide)).trans s0) ((tr (51 + 1) (by decide) (by decide)).trans s1) ((tr (51 + 2) (by decide) (by decide)).trans s2) ((tr (51 + 3) (by decide) (by decide)).trans s3) ((tr (51 + 4) (by decide) (by decide)).trans s4) ((tr 56 (by decide) (by decide)).trans q56) ((tr (56 + 1) (by decide) (by decide)).trans q57) ((tr (56 + 2) (by decide) (by decide)).trans q58) ((tr (56 + 3) (by decide) (by decide)).trans q59) ((tr (56 + 4) (by decide) (by decide)).trans q60) (hn62) (hrc) (ha) (hso), ?_⟩
      intro rv2 h'' n'' hp
      have hf := hp.fin hC3 (fun _ _ => rfl) hM3 (hs_eq _ _ _) (hG) (by omega)
      exact ⟨_, hp.1.symm, by have := hp.2.1; omega, hf, fun _ => pk_uLs.trans (congrArg Int32.toInt64 ((Value.int.inj (Option.some.inj qv)).trans (count_eq hso)))⟩
set_option maxRecDepth 20000 in
theorem pr_pass {l : Launch} {K : gw_K} (hst : l.stackTraces = false) {h : gw_H} {n : Nat} {thr : Int32} {o : Nat → Int64} (hI : INV h n thr o) (a : Int32) : PAIR l K h n mL_pass hhL_pass mX5_pass [.ref 0, .int a, .ref 61] [.ref 40, .int a] := by
  obtain ⟨hn62, h61, wd, sk, vt, ti, fa, st, ws, rc, dy, mc, tch, frs, ln, lds, rws, frx, hos, chs, dgs, cs, hC, hX, hM, hG⟩ := hI
  obtain ⟨r0, f0, f1, f2, f3, f4, f5, ⟨tf, f6⟩, f7, f8, ⟨owd, osk, ovt, oti, ofa, otf, ost, ows, orc, ody, t0, t1, t2, t3, t4, t5, t6, t7, t8⟩, ⟨pl, mv, ma, sn, cm, rr, u0, u1, u2, u3, u4⟩, fl, fli⟩ := id hC
  obtain ⟨len, ady, co, dg, rw_, go, we, avt, ati, afa, ast, m0, q46, q47, q48, q49, q50, q56, q57, q58, q59, q60⟩ := id hX
  obtain ⟨m41, m42, m43, m44, m45, s0, s1, s2, s3, s4⟩ := id hM
  obtain ⟨hrc, hm5, hsi, hvp, hsk, hln, hlk, hv, hlo⟩ := id hG
  have hso : ∀ r, r < rc → seatOK (st r) := fun r hr => (hsi r hr).1
  have hl : ∀ k c, k < mc → c = 25 + 3 * k → h c = oB 0 [.ref (c + 1), .ref (c + 2), .int (nI (ln k)), .int (nI (lds k)), .int (rws k), .int (frx k), .int (hos k)] ∧ h (c + 1) = aI 12 (chs k) ∧ h (c + 2) = aI 6 (dgs k) := fun k c hk hc => fli k c (by omega) hc
  have hmc : ∀ m, m < mc → ln m ≤ 12 ∧ codI (chM cs ln m) (crM (chM cs ln m) (ln m) * ln m) = nI 1865 := fun m hm => ⟨hln m (by omega), (hlo m (by omega)).2.2.2⟩
  rcases Classical.em (a < nI 1 ∨ nI 60 < a) with h2 | h2
  · refine ⟨1, _, kL_pass hst r0 (kX3_pass_d hst r0 f0 (h2)) (fun _ _ _ q => q.elim) (fun E h' n' q => q.1), ?_⟩
    rintro rv h' n' (⟨E, ⟨rfl, rfl, rfl⟩, hdx⟩ | ⟨v, o2, hw, q, -⟩)
    · have hrv : rv = some (.int (nI 1)) := hdx.2
      refine ⟨hrv, rfl, by decide, 0, 0, _, o, by decide, by decide, h61, ⟨_, m0⟩, kX5_pass_d hst m0 m41 m42 m43 m44 m45 q46 q47 q48 q49 q50 s0 s1 s2 s3 s4 q56 q57 q58 q59 q60 (hn62) (h2), ?_⟩
      intro rv2 h'' n'' hp
      exact ⟨_, hp.1.symm, Nat.le_of_eq hp.2.1, hp.fin hC (fun _ _ => rfl) hM h61 hG hn62, fun z => absurd z (by decide)⟩
    · exact q.elim
  · obtain ⟨a, ha1, ha60, rfl⟩ := gn_in1 (by omega) (by omega) h2
    refine ⟨0, _, kL_pass hst r0 (kX3_pass hst r0 f0 f1 f2 f3 f4 f5 f7 f8 t0 t1 t2 t3 t4 t5 t6 t7 t8 u0 u1 u2 u3 u4 (hrc) (ha1) (ha60)) (fun rv h' n' q => ⟨_, o, q.1.symm, (q.2.2.1 61 (by omega)).trans ((hs_ne (by omega)).trans ((hs_ne (by omega)).trans ((hs_ne (by omega)).trans (h61))))⟩) (fun _ _ _ q => q.elim), ?_⟩
    rintro rv h' n' (⟨E, q, -⟩ | ⟨v, o2, hw, q, ho2, rfl, rfl⟩)
    · exact q.elim
    · obtain ⟨qv, qn, qK, qT, qU⟩ := q
      subst qn
      have hC2 := (((hC.s_tow _ _).s_ti _).s_st _).tr (fun j hj => qK j (by omega)) qT qU
      have tr : ∀ j, 40 ≤ j → j ≤ 60 → (hs hw 61 (aJ 1 (vp_updL o2 0 v.toInt64))) j = h j := fun j h1 h2 => (hs_ne (by omega)).trans ((qK j (by omega)).trans ((hs_ne (by omega)).trans ((hs_ne (by omega)).trans ((hs_ne (by omega)).trans (rfl)))))
      have hC3 := hC2.tr40 (h' := hs hw 61 (aJ 1 (vp_updL o2 0 v.toInt64))) (fun j hj => hs_ne (by omega))
      have hM3 := hM.tr (h' := hs hw 61 (aJ 1 (vp_updL o2 0 v.toInt64))) (fun j hj => tr j (by omega) (by omega))
      refine ⟨rfl, rfl, by decide, 1, 20, _, _, by decide, by decide, hs_eq _ _ _, ⟨_, (tr 40 (by decide) (by decide)).trans m0⟩, kX5_pass hst ((tr 40 (by decide) (by decide)).trans m0) ((tr 41 (by decide) (by decide)).trans m41) ((tr 42 (by decide) (by decide)).trans m42) ((tr 43 (by decide) (by decide)).trans m43) ((tr 44 (by decide) (by decide)).trans m44) ((tr 45 (by decide) (by decide)).trans m45) ((tr 46 (by decide) (by decide)).trans q46) ((tr 47 (by decide) (by decide)).trans q47) ((tr 48 (by decide) (by decide)).trans q48) ((tr 49 (by decide) (by decide)).trans q49) ((tr 50 (by decide) (by decide)).trans q50) ((tr 51 (by decide) (by decide)).trans s0) ((tr (51 + 1) (by decide) (by decide)).trans s1) ((tr (51 + 2) (by decide) (by decide)).trans s2) ((tr (51 + 3) (by decide) (by decide)).trans s3) ((tr (51 + 4) (by decide) (by decide)).trans s4) ((tr 56 (by decide) (by decide)).trans q56) ((tr (56 + 1) (by decide) (by decide)).trans q57) ((tr (56 + 2) (by decide) (by decide)).trans q58) ((tr (56 + 3) (by decide) (by decide)).trans q59) ((tr (56 + 4) (by decide) (by decide)).trans q60) (hn62) (hrc) (hsi) (hvp) (ha1) (ha60), ?_⟩
      intro rv2 h'' n'' hp
      have hf := hp.fin hC3 (fun j hj => (hs_ne (by omega)).trans ((hs_ne (by omega)).trans ((hs_ne (by omega)).trans (rfl)))) (((hM3.s_dy _).s_ti _).s_st _) ((hs_ne (by omega)).trans ((hs_ne (by omega)).trans ((hs_ne (by omega)).trans (hs_eq _ _ _)))) (⟨hrc, hm5, days_I (d := a) (z := (ti, st, dy)) hrc hsi a (Nat.le_refl a), hvp, hsk, hln, hlk, hv, hlo⟩) (by omega)
      exact ⟨_, hp.1.symm, by have := hp.2.1; omega, hf, fun _ => pk_uLs.trans (congrArg Int32.toInt64 ((Value.int.inj (Option.some.inj qv)).symm.trans (rfl)))⟩
set_option maxRecDepth 20000 in
theorem pr_foresee {l : Launch} {K : gw_K} (hst : l.stackTraces = false) {h : gw_H} {n : Nat} {thr : Int32} {o : Nat → Int64} (hI : INV h n thr o) (a b d : Int32) : PAIR l K h n mL_foresee hhL_foresee mX5_foresee [.ref 0, .int a, .int b, .int d, .ref 61] [.ref 40, .int a, .int b, .int d] := by
  obtain ⟨hn62, h61, wd, sk, vt, ti, fa, st, ws, rc, dy, mc, tch, frs, ln, lds, rws, frx, hos, chs, dgs, cs, hC, hX, hM, hG⟩ := hI
  obtain ⟨r0, f0, f1, f2, f3, f4, f5, ⟨tf, f6⟩, f7, f8, ⟨owd, osk, ovt, oti, ofa, otf, ost, ows, orc, ody, t0, t1, t2, t3, t4, t5, t6, t7, t8⟩, ⟨pl, mv, ma, sn, cm, rr, u0, u1, u2, u3, u4⟩, fl, fli⟩ := id hC
  obtain ⟨len, ady, co, dg, rw_, go, we, avt, ati, afa, ast, m0, q46, q47, q48, q49, q50, q56, q57, q58, q59, q60⟩ := id hX
  obtain ⟨m41, m42, m43, m44, m45, s0, s1, s2, s3, s4⟩ := id hM
  obtain ⟨hrc, hm5, hsi, hvp, hsk, hln, hlk, hv, hlo⟩ := id hG
  have hso : ∀ r, r < rc → seatOK (st r) := fun r hr => (hsi r hr).1
  have hl : ∀ k c, k < mc → c = 25 + 3 * k → h c = oB 0 [.ref (c + 1), .ref (c + 2), .int (nI (ln k)), .int (nI (lds k)), .int (rws k), .int (frx k), .int (hos k)] ∧ h (c + 1) = aI 12 (chs k) ∧ h (c + 2) = aI 6 (dgs k) := fun k c hk hc => fli k c (by omega) hc
  have hmc : ∀ m, m < mc → ln m ≤ 12 ∧ codI (chM cs ln m) (crM (chM cs ln m) (ln m) * ln m) = nI 1865 := fun m hm => ⟨hln m (by omega), (hlo m (by omega)).2.2.2⟩
  rcases pk_ix a (n := rc) (by omega) with h1 | h1 | ⟨a, ha, rfl⟩
  · refine ⟨1, _, kL_foresee hst r0 (kX3_foresee_r hst r0 f0 (Or.inl h1)) (fun _ _ _ q => q.elim) (fun E h' n' q => Or.inl q.1), ?_⟩
    rintro rv h' n' (⟨E, ⟨rfl, rfl, rfl⟩, hdx⟩ | ⟨v, o2, hw, q, -⟩)
    · have hrv : rv = some (.int (nI 1)) := by
        rcases hdx with ⟨z, w⟩ | ⟨z, w⟩
        · exact w
        · exact absurd z (by decide)
      refine ⟨hrv, rfl, by decide, 0, 0, _, o, by decide, by decide, h61, ⟨_, m0⟩, kX5_foresee_r hst m0 m41 m42 m43 m44 m45 q46 q47 q48 q49 q50 s0 s1 s2 s3 s4 q56 q57 q58 q59 q60 (hn62) (hrc) (Or.inl h1), ?_⟩
      intro rv2 h'' n'' hp
      exact ⟨_, hp.1.symm, Nat.le_of_eq hp.2.1, hp.fin hC (fun _ _ => rfl) hM h61 hG hn62, fun z => absurd z (by decide)⟩
    · exact q.elim
  · refine ⟨1, _, kL_foresee hst r0 (kX3_foresee_r hst r0 f0 (Or.inr h1)) (fun _ _ _ q => q.elim) (fun E h' n' q => Or.inl q.1), ?_⟩
    rintro rv h' n' (⟨E, ⟨rfl, rfl, rfl⟩, hdx⟩ | ⟨v, o2, hw, q, -⟩)
    · have hrv : rv = some (.int (nI 1)) := by
        rcases hdx with ⟨z, w⟩ | ⟨z, w⟩
        · exact w
        · exact absurd z (by decide)
      refine ⟨hrv, rfl, by decide, 0, 0, _, o, by decide, by decide, h61, ⟨_, m0⟩, kX5_foresee_r hst m0 m41 m42 m43 m44 m45 q46 q47 q48 q49 q50 s0 s1 s2 s3 s4 q56 q57 q58 q59 q60 (hn62) (hrc) (Or.inr h1), ?_⟩
      intro rv2 h'' n'' hp
      exact ⟨_, hp.1.symm, Nat.le_of_eq hp.2.1, hp.fin hC (fun _ _ => rfl) hM h61 hG hn62, fun z => absurd z (by decide)⟩
    · exact q.elim
  · rcases Classical.em (b < nI 1 ∨ nI 60 < b) with h2 | h2
    · refine ⟨2, _, kL_foresee hst r0 (kX3_foresee_d hst r0 f0 (hrc) (ha) (h2)) (fun _ _ _ q => q.elim) (fun E h' n' q => Or.inr (q.1)), ?_⟩
      rintro rv h' n' (⟨E, ⟨rfl, rfl, rfl⟩, hdx⟩ | ⟨v, o2, hw, q, -⟩)
      · have hrv : rv = some (.int (nI 2)) := by
          rcases hdx with ⟨z, w⟩ | ⟨z, w⟩
          · exact absurd z (by decide)
          · exact w
        refine ⟨hrv, rfl, by decide, 0, 0, _, o, by decide, by decide, h61, ⟨_, m0⟩, kX5_foresee_d hst m0 m41 m42 m43 m44 m45 q46 q47 q48 q49 q50 s0 s1 s2 s3 s4 q56 q57 q58 q59 q60 (hn62) (hrc) (ha) (h2), ?_⟩
        intro rv2 h'' n'' hp
        exact ⟨_, hp.1.symm, Nat.le_of_eq hp.2.1, hp.fin hC (fun _ _ => rfl) hM h61 hG hn62, fun z => absurd z (by decide)⟩
      · exact q.elim
    · obtain ⟨b, hb1, hb60, rfl⟩ := gn_in1 (by omega) (by omega) h2
      rcases Classical.em (d < nI 3 ∨ nI 5 < d) with h3 | h3
      · refine ⟨2, _, kL_foresee hst r0 (kX3_foresee_w hst r0 f0 (hrc) (ha) (hb1) (hb60) (h3)) (fun _ _ _ q => q.elim) (fun E h' n' q => Or.inr (q.1)), ?_⟩
        rintro rv h' n' (⟨E, ⟨rfl, rfl, rfl⟩, hdx⟩ | ⟨v, o2, hw, q, -⟩)
        · have hrv : rv = some (.int (nI 2)) := by
            rcases hdx with ⟨z, w⟩ | ⟨z, w⟩
            · exact absurd z (by decide)
            · exact w
          refine ⟨hrv, rfl, by decide, 0, 0, _, o, by decide, by decide, h61, ⟨_, m0⟩, kX5_foresee_w hst m0 m41 m42 m43 m44 m45 q46 q47 q48 q49 q50 s0 s1 s2 s3 s4 q56 q57 q58 q59 q60 (hn62) (hrc) (ha) (hb1) (hb60) (h3), ?_⟩
          intro rv2 h'' n'' hp
          exact ⟨_, hp.1.symm, Nat.le_of_eq hp.2.1, hp.fin hC (fun _ _ => rfl) hM h61 hG hn62, fun z => absurd z (by decide)⟩
        · exact q.elim
      · obtain ⟨d, hd3, hd5, rfl⟩ := gn_in1 (by omega) (by omega) h3
        refine ⟨0, _, kL_foresee hst r0 (kX3_foresee hst r0 f0 f1 f2 f3 f4 f5 f7 f8 t0 t1 t2 t3 t4 t5 t6 t7 t8 u0 u1 u2 u3 u4 (hrc) (ha) (hb1) (hb60) (hd3) (hd5)) (fun rv h' n' q => ⟨_, o, q.1.symm, (q.2.2.1 61 (by omega)).trans (h61)⟩) (fun _ _ _ q => q.elim), ?_⟩
        rintro rv h' n' (⟨E, q, -⟩ | ⟨v, o2, hw, q, ho2, rfl, rfl⟩)
        · exact q.elim
        · obtain ⟨qv, qn, qK, qT, qU⟩ := q
          subst qn
          have hC2 := (hC).tr (fun j hj => qK j (by omega)) qT qU
          have tr : ∀ j, 40 ≤ j → j ≤ 60 → (hs hw 61 (aJ 1 (vp_updL o2 0 v.toInt64))) j = h j := fun j h1 h2 => (hs_ne (by omega)).trans ((qK j (by omega)).trans (rfl))
          have hC3 := hC2.tr40 (h' := hs hw 61 (aJ 1 (vp_updL o2 0 v.toInt64))) (fun j hj => hs_ne (by omega))
          have hM3 := hM.tr (h' := hs hw 61 (aJ 1 (vp_updL o2 0 v.toInt64))) (fun j hj => tr j (by omega) (by omega))
          refine ⟨rfl, rfl, by decide, 1, 8, _, _, by decide, by decide, hs_eq _ _ _, ⟨_, (tr 40 (by decide) (by decide)).trans m0⟩, kX5_foresee hst ((tr 40 (by decide) (by decide)).trans m0) ((tr 41 (by decide) (by decide)).trans m41) ((tr 42 (by decide) (by decide)).trans m42) ((tr 43 (by decide) (by decide)).trans m43) ((tr 44 (by decide) (by decide)).trans m44) ((tr 45 (by decide) (by decide)).trans m45) ((tr 46 (by decide) (by decide)).trans q46) ((tr 47 (by decide) (by decide)).trans q47) ((tr 48 (by decide) (by decide)).trans q48) ((tr 49 (by decide) (by decide)).trans q49) ((tr 50 (by decide) (by decide)).trans q50) ((tr 51 (by decide) (by decide)).trans s0) ((tr (51 + 1) (by decide) (by decide)).trans s1) ((tr (51 + 2) (by decide) (by decide)).trans s2) ((tr (51 + 3) (by decide) (by decide)).trans s3) ((tr (51 + 4) (by decide) (by decide)).trans s4) ((tr 56 (by decide) (by decide)).trans q56) ((tr (56 + 1) (by decide) (by decide)).trans q57) ((tr (56 + 2) (by decide) (by decide)).trans q58) ((tr (56 + 3) (by decide) (by decide)).trans q59) ((tr (56 + 4) (by decide) (by decide)).trans q60) (hn62) (hrc) (hsi) (hvp) (ha) (hb1) (hb60) (hd3) (hd5), ?_⟩
          intro rv2 h'' n'' hp
          have hf := hp.fin hC3 (fun _ _ => rfl) hM3 (hs_eq _ _ _) (hG) (by omega)
          exact ⟨_, hp.1.symm, by have := hp.2.1; omega, hf, fun _ => pk_uLs.trans (congrArg Int32.toInt64 ((Value.int.inj (Option.some.inj qv)).symm.trans (rfl)))⟩
