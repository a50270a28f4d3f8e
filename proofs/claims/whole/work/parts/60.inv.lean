/-! what the class and the model hold, alike -/
def CIv (h : gw_H) (wd : Nat → Int32) (sk : Nat → Int32) (vt : Nat → Int32) (ti : Nat → Int32) (fa : Nat → Int32) (st : Nat → Int32) (ws : Nat → Int32) (rc : Nat) (dy : Int32) (mc : Nat) (tch : Int32) (frs : Int32) (ln : Nat → Nat) (lds : Nat → Nat) (rws : Nat → Int32) (frx : Nat → Int32) (hos : Nat → Int32) (chs : Nat → Nat → Int32) (dgs : Nat → Nat → Int32) : Prop := h 0 = oB 3 [.ref 1, .ref 10, .ref 19, .ref 24, .int (nI mc), .int tch, .int frs] ∧ h 1 = oB 2 [.ref (1 + 1), .ref (1 + 2), .ref (1 + 3), .ref (1 + 4), .ref (1 + 5), .ref (1 + 6), .ref (1 + 7), .ref (1 + 8), .int (nI rc), .int dy] ∧ h (1 + 1) = aI 20 wd ∧ h (1 + 2) = aI 20 sk ∧ h (1 + 3) = aI 20 vt ∧ h (1 + 4) = aI 20 ti ∧ h (1 + 5) = aI 20 fa ∧ (∃ tf, h (1 + 6) = aI 20 tf) ∧ h (1 + 7) = aI 20 st ∧ h (1 + 8) = aI 18 ws ∧ TowS h 10 ∧ TouS h 19 ∧ h 24 = aQ 5 lsF ∧ ∀ k c, k < 5 → c = 25 + 3 * k → h c = oB 0 [.ref (c + 1), .ref (c + 2), .int (nI (ln k)), .int (nI (lds k)), .int (rws k), .int (frx k), .int (hos k)] ∧ h (c + 1) = aI 12 (chs k) ∧ h (c + 2) = aI 6 (dgs k)
def MIc (h : gw_H) (wd : Nat → Int32) (sk : Nat → Int32) (vt : Nat → Int32) (ti : Nat → Int32) (fa : Nat → Int32) (st : Nat → Int32) (ws : Nat → Int32) (dy : Int32) (ln : Nat → Nat) (cs : Nat → Int32) : Prop := h 41 = aI 20 wd ∧ h 42 = aI 20 sk ∧ h 43 = aI 18 ws ∧ h 44 = aI 5 (fun k => nI (ln k)) ∧ h 45 = aI 60 cs ∧ h 51 = oB 4 [.int dy, .ref (51 + 1), .ref (51 + 2), .ref (51 + 3), .ref (51 + 4), .ref 40] ∧ h (51 + 1) = aI 20 vt ∧ h (51 + 2) = aI 20 ti ∧ h (51 + 3) = aI 20 fa ∧ h (51 + 4) = aI 20 st
def GDs (sk : Nat → Int32) (vt : Nat → Int32) (st : Nat → Int32) (rc : Nat) (mc : Nat) (ln : Nat → Nat) (lds : Nat → Nat) (rws : Nat → Int32) (frx : Nat → Int32) (hos : Nat → Int32) (chs : Nat → Nat → Int32) (dgs : Nat → Nat → Int32) (cs : Nat → Int32) : Prop := rc ≤ 20 ∧ mc ≤ 5 ∧ seatI st rc ∧ (∀ r, r < rc → 0 ≤ vt r) ∧ (∀ r, r < rc → ∃ k, k ≤ 9 ∧ sk r = nI k) ∧ (∀ k, k < 5 → ln k ≤ 12) ∧ (∀ k, k < 5 → ∀ q, q < ln k → cs (12 * k + q) = chs k q) ∧ (∀ k, k < 5 → ∀ i, i < ln k → vchg (chs k i)) ∧ ∀ k, k < 5 → LOK (chM cs ln k) (ln k) (lds k) (rws k) (frx k) (hos k) (dgs k)
def INV (h : gw_H) (n : Nat) (thr : Int32) (o : Nat → Int64) : Prop := 62 ≤ n ∧ h 61 = aJ 1 o ∧ ∃ (wd : Nat → Int32) (sk : Nat → Int32) (vt : Nat → Int32) (ti : Nat → Int32) (fa : Nat → Int32) (st : Nat → Int32) (ws : Nat → Int32) (rc : Nat) (dy : Int32) (mc : Nat) (tch : Int32) (frs : Int32) (ln : Nat → Nat) (lds : Nat → Nat) (rws : Nat → Int32) (frx : Nat → Int32) (hos : Nat → Int32) (chs : Nat → Nat → Int32) (dgs : Nat → Nat → Int32) (cs : Nat → Int32), CIv h wd sk vt ti fa st ws rc dy mc tch frs ln lds rws frx hos chs dgs ∧ MX h thr rc mc tch frs ∧ MIc h wd sk vt ti fa st ws dy ln cs ∧ GDs sk vt st rc mc ln lds rws frx hos chs dgs cs
theorem CIv.s_wd {h : gw_H} {wd : Nat → Int32} {sk : Nat → Int32} {vt : Nat → Int32} {ti : Nat → Int32} {fa : Nat → Int32} {st : Nat → Int32} {ws : Nat → Int32} {rc : Nat} {dy : Int32} {mc : Nat} {tch : Int32} {frs : Int32} {ln : Nat → Nat} {lds : Nat → Nat} {rws : Nat → Int32} {frx : Nat → Int32} {hos : Nat → Int32} {chs : Nat → Nat → Int32} {dgs : Nat → Nat → Int32} (H : CIv h wd sk vt ti fa st ws rc dy mc tch frs ln lds rws frx hos chs dgs) (x : Nat → Int32) : CIv (hs h (1 + 1) (aI 20 x)) x sk vt ti fa st ws rc dy mc tch frs ln lds rws frx hos chs dgs := by
  obtain ⟨r0, f0, f1, f2, f3, f4, f5, ⟨tf, f6⟩, f7, f8, hT, hU, fl, fli⟩ := H
  exact ⟨(hs_ne (by decide)).trans r0, (hs_ne (by decide)).trans f0, hs_eq _ _ _, (hs_ne (by decide)).trans f2, (hs_ne (by decide)).trans f3, (hs_ne (by decide)).trans f4, (hs_ne (by decide)).trans f5, ⟨_, (hs_ne (by decide)).trans f6⟩, (hs_ne (by decide)).trans f7, (hs_ne (by decide)).trans f8, TowS_hs (by omega) hT, TouS_hs (by omega) hU, (hs_ne (by decide)).trans fl, fun k c hk hc => by
    obtain ⟨a1, a2, a3⟩ := fli k c hk hc
    exact ⟨(hs_ne (by omega)).trans a1, (hs_ne (by omega)).trans a2, (hs_ne (by omega)).trans a3⟩⟩
theorem CIv.s_sk {h : gw_H} {wd : Nat → Int32} {sk : Nat → Int32} {vt : Nat → Int32} {ti : Nat → Int32} {fa : Nat → Int32} {st : Nat → Int32} {ws : Nat → Int32} {rc : Nat} {dy : Int32} {mc : Nat} {tch : Int32} {frs : Int32} {ln : Nat → Nat} {lds : Nat → Nat} {rws : Nat → Int32} {frx : Nat → Int32} {hos : Nat → Int32} {chs : Nat → Nat → Int32} {dgs : Nat → Nat → Int32} (H : CIv h wd sk vt ti fa st ws rc dy mc tch frs ln lds rws frx hos chs dgs) (x : Nat → Int32) : CIv (hs h (1 + 2) (aI 20 x)) wd x vt ti fa st ws rc dy mc tch frs ln lds rws frx hos chs dgs := by
  obtain ⟨r0, f0, f1, f2, f3, f4, f5, ⟨tf, f6⟩, f7, f8, hT, hU, fl, fli⟩ := H
  exact ⟨(hs_ne (by decide)).trans r0, (hs_ne (by decide)).trans f0, (hs_ne (by decide)).trans f1, hs_eq _ _ _, (hs_ne (by decide)).trans f3, (hs_ne (by decide)).trans f4, (hs_ne (by decide)).trans f5, ⟨_, (hs_ne (by decide)).trans f6⟩, (hs_ne (by decide)).trans f7, (hs_ne (by decide)).trans f8, TowS_hs (by omega) hT, TouS_hs (by omega) hU, (hs_ne (by decide)).trans fl, fun k c hk hc => by
    obtain ⟨a1, a2, a3⟩ := fli k c hk hc
    exact ⟨(hs_ne (by omega)).trans a1, (hs_ne (by omega)).trans a2, (hs_ne (by omega)).trans a3⟩⟩
theorem CIv.s_vt {h : gw_H} {wd : Nat → Int32} {sk : Nat → Int32} {vt : Nat → Int32} {ti : Nat → Int32} {fa : Nat → Int32} {st : Nat → Int32} {ws : Nat → Int32} {rc : Nat} {dy : Int32} {mc : Nat} {tch : Int32} {frs : Int32} {ln : Nat → Nat} {lds : Nat → Nat} {rws : Nat → Int32} {frx : Nat → Int32} {hos : Nat → Int32} {chs : Nat → Nat → Int32} {dgs : Nat → Nat → Int32} (H : CIv h wd sk vt ti fa st ws rc dy mc tch frs ln lds rws frx hos chs dgs) (x : Nat → Int32) : CIv (hs h (1 + 3) (aI 20 x)) wd sk x ti fa st ws rc dy mc tch frs ln lds rws frx hos chs dgs := by
  obtain ⟨r0, f0, f1, f2, f3, f4, f5, ⟨tf, f6⟩, f7, f8, hT, hU, fl, fli⟩ := H
  exact ⟨(hs_ne (by decide)).trans r0, (hs_ne (by decide)).trans f0, (hs_ne (by decide)).trans f1, (hs_ne (by decide)).trans f2, hs_eq _ _ _, (hs_ne (by decide)).trans f4, (hs_ne (by decide)).trans f5, ⟨_, (hs_ne (by decide)).trans f6⟩, (hs_ne (by decide)).trans f7, (hs_ne (by decide)).trans f8, TowS_hs (by omega) hT, TouS_hs (by omega) hU, (hs_ne (by decide)).trans fl, fun k c hk hc => by
    obtain ⟨a1, a2, a3⟩ := fli k c hk hc
    exact ⟨(hs_ne (by omega)).trans a1, (hs_ne (by omega)).trans a2, (hs_ne (by omega)).trans a3⟩⟩
theorem CIv.s_ti {h : gw_H} {wd : Nat → Int32} {sk : Nat → Int32} {vt : Nat → Int32} {ti : Nat → Int32} {fa : Nat → Int32} {st : Nat → Int32} {ws : Nat → Int32} {rc : Nat} {dy : Int32} {mc : Nat} {tch : Int32} {frs : Int32} {ln : Nat → Nat} {lds : Nat → Nat} {rws : Nat → Int32} {frx : Nat → Int32} {hos : Nat → Int32} {chs : Nat → Nat → Int32} {dgs : Nat → Nat → Int32} (H : CIv h wd sk vt ti fa st ws rc dy mc tch frs ln lds rws frx hos chs dgs) (x : Nat → Int32) : CIv (hs h (1 + 4) (aI 20 x)) wd sk vt x fa st ws rc dy mc tch frs ln lds rws frx hos chs dgs := by
  obtain ⟨r0, f0, f1, f2, f3, f4, f5, ⟨tf, f6⟩, f7, f8, hT, hU, fl, fli⟩ := H
  exact ⟨(hs_ne (by decide)).trans r0, (hs_ne (by decide)).trans f0, (hs_ne (by decide)).trans f1, (hs_ne (by decide)).trans f2, (hs_ne (by decide)).trans f3, hs_eq _ _ _, (hs_ne (by decide)).trans f5, ⟨_, (hs_ne (by decide)).trans f6⟩, (hs_ne (by decide)).trans f7, (hs_ne (by decide)).trans f8, TowS_hs (by omega) hT, TouS_hs (by omega) hU, (hs_ne (by decide)).trans fl, fun k c hk hc => by
    obtain ⟨a1, a2, a3⟩ := fli k c hk hc
    exact ⟨(hs_ne (by omega)).trans a1, (hs_ne (by omega)).trans a2, (hs_ne (by omega)).trans a3⟩⟩
theorem CIv.s_fa {h : gw_H} {wd : Nat → Int32} {sk : Nat → Int32} {vt : Nat → Int32} {ti : Nat → Int32} {fa : Nat → Int32} {st : Nat → Int32} {ws : Nat → Int32} {rc : Nat} {dy : Int32} {mc : Nat} {tch : Int32} {frs : Int32} {ln : Nat → Nat} {lds : Nat → Nat} {rws : Nat → Int32} {frx : Nat → Int32} {hos : Nat → Int32} {chs : Nat → Nat → Int32} {dgs : Nat → Nat → Int32} (H : CIv h wd sk vt ti fa st ws rc dy mc tch frs ln lds rws frx hos chs dgs) (x : Nat → Int32) : CIv (hs h (1 + 5) (aI 20 x)) wd sk vt ti x st ws rc dy mc tch frs ln lds rws frx hos chs dgs := by
  obtain ⟨r0, f0, f1, f2, f3, f4, f5, ⟨tf, f6⟩, f7, f8, hT, hU, fl, fli⟩ := H
  exact ⟨(hs_ne (by decide)).trans r0, (hs_ne (by decide)).trans f0, (hs_ne (by decide)).trans f1, (hs_ne (by decide)).trans f2, (hs_ne (by decide)).trans f3, (hs_ne (by decide)).trans f4, hs_eq _ _ _, ⟨_, (hs_ne (by decide)).trans f6⟩, (hs_ne (by decide)).trans f7, (hs_ne (by decide)).trans f8, TowS_hs (by omega) hT, TouS_hs (by omega) hU, (hs_ne (by decide)).trans fl, fun k c hk hc => by
    obtain ⟨a1, a2, a3⟩ := fli k c hk hc
    exact ⟨(hs_ne (by omega)).trans a1, (hs_ne (by omega)).trans a2, (hs_ne (by omega)).trans a3⟩⟩
theorem CIv.s_st {h : gw_H} {wd : Nat → Int32} {sk : Nat → Int32} {vt : Nat → Int32} {ti : Nat → Int32} {fa : Nat → Int32} {st : Nat → Int32} {ws : Nat → Int32} {rc : Nat} {dy : Int32} {mc : Nat} {tch : Int32} {frs : Int32} {ln : Nat → Nat} {lds : Nat → Nat} {rws : Nat → Int32} {frx : Nat → Int32} {hos : Nat → Int32} {chs : Nat → Nat → Int32} {dgs : Nat → Nat → Int32} (H : CIv h wd sk vt ti fa st ws rc dy mc tch frs ln lds rws frx hos chs dgs) (x : Nat → Int32) : CIv (hs h (1 + 7) (aI 20 x)) wd sk vt ti fa x ws rc dy mc tch frs ln lds rws frx hos chs dgs := by
  obtain ⟨r0, f0, f1, f2, f3, f4, f5, ⟨tf, f6⟩, f7, f8, hT, hU, fl, fli⟩ := H
  exact ⟨(hs_ne (by decide)).trans r0, (hs_ne (by decide)).trans f0, (hs_ne (by decide)).trans f1, (hs_ne (by decide)).trans f2, (hs_ne (by decide)).trans f3, (hs_ne (by decide)).trans f4, (hs_ne (by decide)).trans f5, ⟨_, (hs_ne (by decide)).trans f6⟩, hs_eq _ _ _, (hs_ne (by decide)).trans f8, TowS_hs (by omega) hT, TouS_hs (by omega) hU, (hs_ne (by decide)).trans fl, fun k c hk hc => by
    obtain ⟨a1, a2, a3⟩ := fli k c hk hc
    exact ⟨(hs_ne (by omega)).trans a1, (hs_ne (by omega)).trans a2, (hs_ne (by omega)).trans a3⟩⟩
theorem CIv.s_tf {h : gw_H} {wd : Nat → Int32} {sk : Nat → Int32} {vt : Nat → Int32} {ti : Nat → Int32} {fa : Nat → Int32} {st : Nat → Int32} {ws : Nat → Int32} {rc : Nat} {dy : Int32} {mc : Nat} {tch : Int32} {frs : Int32} {ln : Nat → Nat} {lds : Nat → Nat} {rws : Nat → Int32} {frx : Nat → Int32} {hos : Nat → Int32} {chs : Nat → Nat → Int32} {dgs : Nat → Nat → Int32} (H : CIv h wd sk vt ti fa st ws rc dy mc tch frs ln lds rws frx hos chs dgs) (x : Nat → Int32) : CIv (hs h (1 + 6) (aI 20 x)) wd sk vt ti fa st ws rc dy mc tch frs ln lds rws frx hos chs dgs := by
  obtain ⟨r0, f0, f1, f2, f3, f4, f5, ⟨tf, f6⟩, f7, f8, hT, hU, fl, fli⟩ := H
  exact ⟨(hs_ne (by decide)).trans r0, (hs_ne (by decide)).trans f0, (hs_ne (by decide)).trans f1, (hs_ne (by decide)).trans f2, (hs_ne (by decide)).trans f3, (hs_ne (by decide)).trans f4, (hs_ne (by decide)).trans f5, ⟨_, hs_eq _ _ _⟩, (hs_ne (by decide)).trans f7, (hs_ne (by decide)).trans f8, TowS_hs (by omega) hT, TouS_hs (by omega) hU, (hs_ne (by decide)).trans fl, fun k c hk hc => by
    obtain ⟨a1, a2, a3⟩ := fli k c hk hc
    exact ⟨(hs_ne (by omega)).trans a1, (hs_ne (by omega)).trans a2, (hs_ne (by omega)).trans a3⟩⟩
theorem CIv.s_ws {h : gw_H} {wd : Nat → Int32} {sk : Nat → Int32} {vt : Nat → Int32} {ti : Nat → Int32} {fa : Nat → Int32} {st : Nat → Int32} {ws : Nat → Int32} {rc : Nat} {dy : Int32} {mc : Nat} {tch : Int32} {frs : Int32} {ln : Nat → Nat} {lds : Nat → Nat} {rws : Nat → Int32} {frx : Nat → Int32} {hos : Nat → Int32} {chs : Nat → Nat → Int32} {dgs : Nat → Nat → Int32} (H : CIv h wd sk vt ti fa st ws rc dy mc tch frs ln lds rws frx hos chs dgs) (x : Nat → Int32) : CIv (hs h (1 + 8) (aI 18 x)) wd sk vt ti fa st x rc dy mc tch frs ln lds rws frx hos chs dgs := by
  obtain ⟨r0, f0, f1, f2, f3, f4, f5, ⟨tf, f6⟩, f7, f8, hT, hU, fl, fli⟩ := H
  exact ⟨(hs_ne (by decide)).trans r0, (hs_ne (by decide)).trans f0, (hs_ne (by decide)).trans f1, (hs_ne (by decide)).trans f2, (hs_ne (by decide)).trans f3, (hs_ne (by decide)).trans f4, (hs_ne (by decide)).trans f5, ⟨_, (hs_ne (by decide)).trans f6⟩, (hs_ne (by decide)).trans f7, hs_eq _ _ _, TowS_hs (by omega) hT, TouS_hs (by omega) hU, (hs_ne (by decide)).trans fl, fun k c hk hc => by
    obtain ⟨a1, a2, a3⟩ := fli k c hk hc
    exact ⟨(hs_ne (by omega)).trans a1, (hs_ne (by omega)).trans a2, (hs_ne (by omega)).trans a3⟩⟩
theorem CIv.s_tow {h : gw_H} {wd : Nat → Int32} {sk : Nat → Int32} {vt : Nat → Int32} {ti : Nat → Int32} {fa : Nat → Int32} {st : Nat → Int32} {ws : Nat → Int32} {rc : Nat} {dy : Int32} {mc : Nat} {tch : Int32} {frs : Int32} {ln : Nat → Nat} {lds : Nat → Nat} {rws : Nat → Int32} {frx : Nat → Int32} {hos : Nat → Int32} {chs : Nat → Nat → Int32} {dgs : Nat → Nat → Int32} (H : CIv h wd sk vt ti fa st ws rc dy mc tch frs ln lds rws frx hos chs dgs) (x : Nat) (y : Int32) : CIv (hs h 1 (oB 2 [.ref (1 + 1), .ref (1 + 2), .ref (1 + 3), .ref (1 + 4), .ref (1 + 5), .ref (1 + 6), .ref (1 + 7), .ref (1 + 8), .int (nI x), .int y])) wd sk vt ti fa st ws x y mc tch frs ln lds rws frx hos chs dgs := by
  obtain ⟨r0, f0, f1, f2, f3, f4, f5, ⟨tf, f6⟩, f7, f8, hT, hU, fl, fli⟩ := H
  exact ⟨(hs_ne (by decide)).trans r0, hs_eq _ _ _, (hs_ne (by decide)).trans f1, (hs_ne (by decide)).trans f2, (hs_ne (by decide)).trans f3, (hs_ne (by decide)).trans f4, (hs_ne (by decide)).trans f5, ⟨_, (hs_ne (by decide)).trans f6⟩, (hs_ne (by decide)).trans f7, (hs_ne (by decide)).trans f8, TowS_hs (by omega) hT, TouS_hs (by omega) hU, (hs_ne (by decide)).trans fl, fun k c hk hc => by
    obtain ⟨a1, a2, a3⟩ := fli k c hk hc
    exact ⟨(hs_ne (by omega)).trans a1, (hs_ne (by omega)).trans a2, (hs_ne (by omega)).trans a3⟩⟩
theorem CIv.s_mob {h : gw_H} {wd : Nat → Int32} {sk : Nat → Int32} {vt : Nat → Int32} {ti : Nat → Int32} {fa : Nat → Int32} {st : Nat → Int32} {ws : Nat → Int32} {rc : Nat} {dy : Int32} {mc : Nat} {tch : Int32} {frs : Int32} {ln : Nat → Nat} {lds : Nat → Nat} {rws : Nat → Int32} {frx : Nat → Int32} {hos : Nat → Int32} {chs : Nat → Nat → Int32} {dgs : Nat → Nat → Int32} (H : CIv h wd sk vt ti fa st ws rc dy mc tch frs ln lds rws frx hos chs dgs) (x : Nat) (y z : Int32) : CIv (hs h 0 (oB 3 [.ref 1, .ref 10, .ref 19, .ref 24, .int (nI x), .int y, .int z])) wd sk vt ti fa st ws rc dy x y z ln lds rws frx hos chs dgs := by
  obtain ⟨r0, f0, f1, f2, f3, f4, f5, ⟨tf, f6⟩, f7, f8, hT, hU, fl, fli⟩ := H
  exact ⟨hs_eq _ _ _, (hs_ne (by decide)).trans f0, (hs_ne (by decide)).trans f1, (hs_ne (by decide)).trans f2, (hs_ne (by decide)).trans f3, (hs_ne (by decide)).trans f4, (hs_ne (by decide)).trans f5, ⟨_, (hs_ne (by decide)).trans f6⟩, (hs_ne (by decide)).trans f7, (hs_ne (by decide)).trans f8, TowS_hs (by omega) hT, TouS_hs (by omega) hU, (hs_ne (by decide)).trans fl, fun k c hk hc => by
    obtain ⟨a1, a2, a3⟩ := fli k c hk hc
    exact ⟨(hs_ne (by omega)).trans a1, (hs_ne (by omega)).trans a2, (hs_ne (by omega)).trans a3⟩⟩
theorem CIv.tr {h h' : gw_H} {wd : Nat → Int32} {sk : Nat → Int32} {vt : Nat → Int32} {ti : Nat → Int32} {fa : Nat → Int32} {st : Nat → Int32} {ws : Nat → Int32} {rc : Nat} {dy : Int32} {mc : Nat} {tch : Int32} {frs : Int32} {ln : Nat → Nat} {lds : Nat → Nat} {rws : Nat → Int32} {frx : Nat → Int32} {hos : Nat → Int32} {chs : Nat → Nat → Int32} {dgs : Nat → Nat → Int32} (H : CIv h wd sk vt ti fa st ws rc dy mc tch frs ln lds rws frx hos chs dgs) (hj : ∀ j, j < 10 ∨ (24 ≤ j ∧ j < 40) → h' j = h j) (hT' : TowS h' 10) (hU' : TouS h' 19) : CIv h' wd sk vt ti fa st ws rc dy mc tch frs ln lds rws frx hos chs dgs := by
  obtain ⟨r0, f0, f1, f2, f3, f4, f5, ⟨tf, f6⟩, f7, f8, hT, hU, fl, fli⟩ := H
  exact ⟨(hj _ (by decide)).trans r0, (hj _ (by decide)).trans f0, (hj _ (by decide)).trans f1, (hj _ (by decide)).trans f2, (hj _ (by decide)).trans f3, (hj _ (by decide)).trans f4, (hj _ (by decide)).trans f5, ⟨_, (hj _ (by decide)).trans f6⟩, (hj _ (by decide)).trans f7, (hj _ (by decide)).trans f8, hT', hU', (hj _ (by decide)).trans fl, fun k c hk hc => by
    obtain ⟨a1, a2, a3⟩ := fli k c hk hc
    exact ⟨(hj _ (by omega)).trans a1, (hj _ (by omega)).trans a2, (hj _ (by omega)).trans a3⟩⟩
theorem CIv.T {h : gw_H} {wd : Nat → Int32} {sk : Nat → Int32} {vt : Nat → Int32} {ti : Nat → Int32} {fa : Nat → Int32} {st : Nat → Int32} {ws : Nat → Int32} {rc : Nat} {dy : Int32} {mc : Nat} {tch : Int32} {frs : Int32} {ln : Nat → Nat} {lds : Nat → Nat} {rws : Nat → Int32} {frx : Nat → Int32} {hos : Nat → Int32} {chs : Nat → Nat → Int32} {dgs : Nat → Nat → Int32} (H : CIv h wd sk vt ti fa st ws rc dy mc tch frs ln lds rws frx hos chs dgs) : TowS h 10 ∧ TouS h 19 := by
  obtain ⟨r0, f0, f1, f2, f3, f4, f5, ⟨tf, f6⟩, f7, f8, hT, hU, fl, fli⟩ := H
  exact ⟨hT, hU⟩
theorem TowS_tr {h h' : gw_H} {t : Nat} (H : TowS h t) (hj : ∀ j, t ≤ j → j < t + 9 → h' j = h j) : TowS h' t := by
  obtain ⟨wd, sk, vt, ti, fa, tf, st, ws, rc, dy, q0, q1, q2, q3, q4, q5, q6, q7, q8⟩ := H
  exact ⟨wd, sk, vt, ti, fa, tf, st, ws, rc, dy, (hj _ (by omega) (by omega)).trans q0, (hj _ (by omega) (by omega)).trans q1, (hj _ (by omega) (by omega)).trans q2, (hj _ (by omega) (by omega)).trans q3, (hj _ (by omega) (by omega)).trans q4, (hj _ (by omega) (by omega)).trans q5, (hj _ (by omega) (by omega)).trans q6, (hj _ (by omega) (by omega)).trans q7, (hj _ (by omega) (by omega)).trans q8⟩
theorem TouS_tr {h h' : gw_H} {t : Nat} (H : TouS h t) (hj : ∀ j, t ≤ j → j < t + 5 → h' j = h j) : TouS h' t := by
  obtain ⟨p, mv, ma, sn, cm, rr, q0, q1, q2, q3, q4⟩ := H
  exact ⟨p, mv, ma, sn, cm, rr, (hj _ (by omega) (by omega)).trans q0, (hj _ (by omega) (by omega)).trans q1, (hj _ (by omega) (by omega)).trans q2, (hj _ (by omega) (by omega)).trans q3, (hj _ (by omega) (by omega)).trans q4⟩
theorem CIv.tr40 {h h' : gw_H} {wd : Nat → Int32} {sk : Nat → Int32} {vt : Nat → Int32} {ti : Nat → Int32} {fa : Nat → Int32} {st : Nat → Int32} {ws : Nat → Int32} {rc : Nat} {dy : Int32} {mc : Nat} {tch : Int32} {frs : Int32} {ln : Nat → Nat} {lds : Nat → Nat} {rws : Nat → Int32} {frx : Nat → Int32} {hos : Nat → Int32} {chs : Nat → Nat → Int32} {dgs : Nat → Nat → Int32} (H : CIv h wd sk vt ti fa st ws rc dy mc tch frs ln lds rws frx hos chs dgs) (hj : ∀ j, j < 40 → h' j = h j) : CIv h' wd sk vt ti fa st ws rc dy mc tch frs ln lds rws frx hos chs dgs :=
  H.tr (fun j hq => hj j (by omega)) (TowS_tr H.T.1 fun j _ hq => hj j (by omega)) (TouS_tr H.T.2 fun j _ hq => hj j (by omega))
def updC (f : Nat → Nat → Int32) (m : Nat) (x : Nat → Int32) : Nat → Nat → Int32 := fun k => if k = m then x else f k
theorem CIv.s_list {h : gw_H} {wd : Nat → Int32} {sk : Nat → Int32} {vt : Nat → Int32} {ti : Nat → Int32} {fa : Nat → Int32} {st : Nat → Int32} {ws : Nat → Int32} {rc : Nat} {dy : Int32} {mc : Nat} {tch : Int32} {frs : Int32} {ln : Nat → Nat} {lds : Nat → Nat} {rws : Nat → Int32} {frx : Nat → Int32} {hos : Nat → Int32} {chs : Nat → Nat → Int32} {dgs : Nat → Nat → Int32} (H : CIv h wd sk vt ti fa st ws rc dy mc tch frs ln lds rws frx hos chs dgs) {m c0 x1 x2 : Nat} {x3 x4 x5 : Int32} {x6 x7 : Nat → Int32} (hm : m < 5) (hc0 : c0 = 25 + 3 * m) : CIv (hs (hs (hs h c0 (oB 0 [.ref (c0 + 1), .ref (c0 + 2), .int (nI x1), .int (nI x2), .int x3, .int x4, .int x5])) (c0 + 1) (aI 12 x6)) (c0 + 2) (aI 6 x7)) wd sk vt ti fa st ws rc dy mc tch frs (updN ln m x1) (updN lds m x2) (upd rws m x3) (upd frx m x4) (upd hos m x5) (updC chs m x6) (updC dgs m x7) := by
  have hT := H.T
  obtain ⟨r0, f0, f1, f2, f3, f4, f5, ⟨tf, f6⟩, f7, f8, -, -, fl, fli⟩ := H
  have e : ∀ j, j < 25 → (hs (hs (hs h c0 (oB 0 [.ref (c0 + 1), .ref (c0 + 2), .int (nI x1), .int (nI x2), .int x3, .int x4, .int x5])) (c0 + 1) (aI 12 x6)) (c0 + 2) (aI 6 x7)) j = h j := fun j hj => (hs_ne (by omega)).trans ((hs_ne (by omega)).trans (hs_ne (by omega)))
  refine ⟨(e _ (by decide)).trans r0, (e _ (by decide)).trans f0, (e _ (by decide)).trans f1, (e _ (by decide)).trans f2, (e _ (by decide)).trans f3, (e _ (by decide)).trans f4, (e _ (by decide)).trans f5, ⟨_, (e _ (by decide)).trans f6⟩, (e _ (by decide)).trans f7, (e _ (by decide)).trans f8, TowS_tr hT.1 fun j _ hj => e j (by omega), TouS_tr hT.2 fun j _ hj => e j (by omega), (e _ (by decide)).trans fl, fun k c hk hc => ?_⟩
  by_cases hkm : k = m
  · subst hkm
    have hcc : c = c0 := by omega
    subst hcc
    refine ⟨?_, ?_, ?_⟩
    · refine (hs_ne (by omega)).trans ((hs_ne (by omega)).trans ((hs_eq _ _ _).trans ?_))
      simp only [updN, upd, if_true]
    · refine (hs_ne (by omega)).trans ((hs_eq _ _ _).trans ?_)
      simp only [updC, if_true]
    · refine (hs_eq _ _ _).trans ?_
      simp only [updC, if_true]
  · obtain ⟨a1, a2, a3⟩ := fli k c hk hc
    refine ⟨?_, ?_, ?_⟩
    · refine (hs_ne (by omega)).trans ((hs_ne (by omega)).trans ((hs_ne (by omega)).trans (a1.trans ?_)))
      simp only [updN, upd, if_neg hkm]
    · refine (hs_ne (by omega)).trans ((hs_ne (by omega)).trans ((hs_ne (by omega)).trans (a2.trans ?_)))
      simp only [updC, if_neg hkm]
    · refine (hs_ne (by omega)).trans ((hs_ne (by omega)).trans ((hs_ne (by omega)).trans (a3.trans ?_)))
      simp only [updC, if_neg hkm]
theorem MIc.s_wd {h : gw_H} {wd : Nat → Int32} {sk : Nat → Int32} {vt : Nat → Int32} {ti : Nat → Int32} {fa : Nat → Int32} {st : Nat → Int32} {ws : Nat → Int32} {dy : Int32} {ln : Nat → Nat} {cs : Nat → Int32} (H : MIc h wd sk vt ti fa st ws dy ln cs) (x : Nat → Int32) : MIc (hs h 41 (aI 20 x)) x sk vt ti fa st ws dy ln cs := by
  obtain ⟨m41, m42, m43, m44, m45, s0, s1, s2, s3, s4⟩ := H
  exact ⟨hs_eq _ _ _, (hs_ne (by decide)).trans m42, (hs_ne (by decide)).trans m43, (hs_ne (by decide)).trans m44, (hs_ne (by decide)).trans m45, (hs_ne (by decide)).trans s0, (hs_ne (by decide)).trans s1, (hs_ne (by decide)).trans s2, (hs_ne (by decide)).trans s3, (hs_ne (by decide)).trans s4⟩
theorem MIc.s_sk {h : gw_H} {wd : Nat → Int32} {sk : Nat → Int32} {vt : Nat → Int32} {ti : Nat → Int32} {fa : Nat → Int32} {st : Nat → Int32} {ws : Nat → Int32} {dy : Int32} {ln : Nat → Nat} {cs : Nat → Int32} (H : MIc h wd sk vt ti fa st ws dy ln cs) (x : Nat → Int32) : MIc (hs h 42 (aI 20 x)) wd x vt ti fa st ws dy ln cs := by
  obtain ⟨m41, m42, m43, m44, m45, s0, s1, s2, s3, s4⟩ := H
  exact ⟨(hs_ne (by decide)).trans m41, hs_eq _ _ _, (hs_ne (by decide)).trans m43, (hs_ne (by decide)).trans m44, (hs_ne (by decide)).trans m45, (hs_ne (by decide)).trans s0, (hs_ne (by decide)).trans s1, (hs_ne (by decide)).trans s2, (hs_ne (by decide)).trans s3, (hs_ne (by decide)).trans s4⟩
theorem MIc.s_vt {h : gw_H} {wd : Nat → Int32} {sk : Nat → Int32} {vt : Nat → Int32} {ti : Nat → Int32} {fa : Nat → Int32} {st : Nat → Int32} {ws : Nat → Int32} {dy : Int32} {ln : Nat → Nat} {cs : Nat → Int32} (H : MIc h wd sk vt ti fa st ws dy ln cs) (x : Nat → Int32) : MIc (hs h (51 + 1) (aI 20 x)) wd sk x ti fa st ws dy ln cs := by
  obtain ⟨m41, m42, m43, m44, m45, s0, s1, s2, s3, s4⟩ := H
  exact ⟨(hs_ne (by decide)).trans m41, (hs_ne (by decide)).trans m42, (hs_ne (by decide)).trans m43, (hs_ne (by decide)).trans m44, (hs_ne (by decide)).trans m45, (hs_ne (by decide)).trans s0, hs_eq _ _ _, (hs_ne (by decide)).trans s2, (hs_ne (by decide)).trans s3, (hs_ne (by decide)).trans s4⟩
theorem MIc.s_ti {h : gw_H} {wd : Nat → Int32} {sk : Nat → Int32} {vt : Nat → Int32} {ti : Nat → Int32} {fa : Nat → Int32} {st : Nat → Int32} {ws : Nat → Int32} {dy : Int32} {ln : Nat → Nat} {cs : Nat → Int32} (H : MIc h wd sk vt ti fa st ws dy ln cs) (x : Nat → Int32) : MIc (hs h (51 + 2) (aI 20 x)) wd sk vt x fa st ws dy ln cs := by
  obtain ⟨m41, m42, m43, m44, m45, s0, s1, s2, s3, s4⟩ := H
  exact ⟨(hs_ne (by decide)).trans m41, (hs_ne (by decide)).trans m42, (hs_ne (by decide)).trans m43, (hs_ne (by decide)).trans m44, (hs_ne (by decide)).trans m45, (hs_ne (by decide)).trans s0, (hs_ne (by decide)).trans s1, hs_eq _ _ _, (hs_ne (by decide)).trans s3, (hs_ne (by decide)).trans s4⟩
theorem MIc.s_fa {h : gw_H} {wd : Nat → Int32} {sk : Nat → Int32} {vt : Nat → Int32} {ti : Nat → Int32} {fa : Nat → Int32} {st : Nat → Int32} {ws : Nat → Int32} {dy : Int32} {ln : Nat → Nat} {cs : Nat → Int32} (H : MIc h wd sk vt ti fa st ws dy ln cs) (x : Nat → Int32) : MIc (hs h (51 + 3) (aI 20 x)) wd sk vt ti x st ws dy ln cs := by
  obtain ⟨m41, m42, m43, m44, m45, s0, s1, s2, s3, s4⟩ := H
  exact ⟨(hs_ne (by decide)).trans m41, (hs_ne (by decide)).trans m42, (hs_ne (by decide)).trans m43, (hs_ne (by decide)).trans m44, (hs_ne (by decide)).trans m45, (hs_ne (by decide)).trans s0, (hs_ne (by decide)).trans s1, (hs_ne (by decide)).trans s2, hs_eq _ _ _, (hs_ne (by decide)).trans s4⟩
theorem MIc.s_st {h : gw_H} {wd : Nat → Int32} {sk : Nat → Int32} {vt : Nat → Int32} {ti : Nat → Int32} {fa : Nat → Int32} {st : Nat → Int32} {ws : Nat → Int32} {dy : Int32} {ln : Nat → Nat} {cs : Nat → Int32} (H : MIc h wd sk vt ti fa st ws dy ln cs) (x : Nat → Int32) : MIc (hs h (51 + 4) (aI 20 x)) wd sk vt ti fa x ws dy ln cs := by
  obtain ⟨m41, m42, m43, m44, m45, s0, s1, s2, s3, s4⟩ := H
  exact ⟨(hs_ne (by decide)).trans m41, (hs_ne (by decide)).trans m42, (hs_ne (by decide)).trans m43, (hs_ne (by decide)).trans m44, (hs_ne (by decide)).trans m45, (hs_ne (by decide)).trans s0, (hs_ne (by decide)).trans s1, (hs_ne (by decide)).trans s2, (hs_ne (by decide)).trans s3, hs_eq _ _ _⟩
theorem MIc.s_ws {h : gw_H} {wd : Nat → Int32} {sk : Nat → Int32} {vt : Nat → Int32} {ti : Nat → Int32} {fa : Nat → Int32} {st : Nat → Int32} {ws : Nat → Int32} {dy : Int32} {ln : Nat → Nat} {cs : Nat → Int32} (H : MIc h wd sk vt ti fa st ws dy ln cs) (x : Nat → Int32) : MIc (hs h 43 (aI 18 x)) wd sk vt ti fa st x dy ln cs := by
  obtain ⟨m41, m42, m43, m44, m45, s0, s1, s2, s3, s4⟩ := H
  exact ⟨(hs_ne (by decide)).trans m41, (hs_ne (by decide)).trans m42, hs_eq _ _ _, (hs_ne (by decide)).trans m44, (hs_ne (by decide)).trans m45, (hs_ne (by decide)).trans s0, (hs_ne (by decide)).trans s1, (hs_ne (by decide)).trans s2, (hs_ne (by decide)).trans s3, (hs_ne (by decide)).trans s4⟩
theorem MIc.s_mn {h : gw_H} {wd : Nat → Int32} {sk : Nat → Int32} {vt : Nat → Int32} {ti : Nat → Int32} {fa : Nat → Int32} {st : Nat → Int32} {ws : Nat → Int32} {dy : Int32} {ln : Nat → Nat} {cs : Nat → Int32} (H : MIc h wd sk vt ti fa st ws dy ln cs) (x : Nat → Nat) : MIc (hs h 44 (aI 5 (fun k => nI (x k)))) wd sk vt ti fa st ws dy x cs := by
  obtain ⟨m41, m42, m43, m44, m45, s0, s1, s2, s3, s4⟩ := H
  exact ⟨(hs_ne (by decide)).trans m41, (hs_ne (by decide)).trans m42, (hs_ne (by decide)).trans m43, hs_eq _ _ _, (hs_ne (by decide)).trans m45, (hs_ne (by decide)).trans s0, (hs_ne (by decide)).trans s1, (hs_ne (by decide)).trans s2, (hs_ne (by decide)).trans s3, (hs_ne (by decide)).trans s4⟩
theorem MIc.s_cs {h : gw_H} {wd : Nat → Int32} {sk : Nat → Int32} {vt : Nat → Int32} {ti : Nat → Int32} {fa : Nat → Int32} {st : Nat → Int32} {ws : Nat → Int32} {dy : Int32} {ln : Nat → Nat} {cs : Nat → Int32} (H : MIc h wd sk vt ti fa st ws dy ln cs) (x : Nat → Int32) : MIc (hs h 45 (aI 60 x)) wd sk vt ti fa st ws dy ln x := by
  obtain ⟨m41, m42, m43, m44, m45, s0, s1, s2, s3, s4⟩ := H
  exact ⟨(hs_ne (by decide)).trans m41, (hs_ne (by decide)).trans m42, (hs_ne (by decide)).trans m43, (hs_ne (by decide)).trans m44, hs_eq _ _ _, (hs_ne (by decide)).trans s0, (hs_ne (by decide)).trans s1, (hs_ne (by decide)).trans s2, (hs_ne (by decide)).trans s3, (hs_ne (by decide)).trans s4⟩
theorem MIc.s_dy {h : gw_H} {wd : Nat → Int32} {sk : Nat → Int32} {vt : Nat → Int32} {ti : Nat → Int32} {fa : Nat → Int32} {st : Nat → Int32} {ws : Nat → Int32} {dy : Int32} {ln : Nat → Nat} {cs : Nat → Int32} (H : MIc h wd sk vt ti fa st ws dy ln cs) (y : Int32) : MIc (hs h 51 (oB 4 [.int y, .ref (51 + 1), .ref (51 + 2), .ref (51 + 3), .ref (51 + 4), .ref 40])) wd sk vt ti fa st ws y ln cs := by
  obtain ⟨m41, m42, m43, m44, m45, s0, s1, s2, s3, s4⟩ := H
  exact ⟨(hs_ne (by decide)).trans m41, (hs_ne (by decide)).trans m42, (hs_ne (by decide)).trans m43, (hs_ne (by decide)).trans m44, (hs_ne (by decide)).trans m45, hs_eq _ _ _, (hs_ne (by decide)).trans s1, (hs_ne (by decide)).trans s2, (hs_ne (by decide)).trans s3, (hs_ne (by decide)).trans s4⟩
theorem MIc.tr {h h' : gw_H} {wd : Nat → Int32} {sk : Nat → Int32} {vt : Nat → Int32} {ti : Nat → Int32} {fa : Nat → Int32} {st : Nat → Int32} {ws : Nat → Int32} {dy : Int32} {ln : Nat → Nat} {cs : Nat → Int32} (H : MIc h wd sk vt ti fa st ws dy ln cs) (hj : ∀ j, (40 < j ∧ j < 46) ∨ (50 < j ∧ j < 56) → h' j = h j) : MIc h' wd sk vt ti fa st ws dy ln cs := by
  obtain ⟨m41, m42, m43, m44, m45, s0, s1, s2, s3, s4⟩ := H
  exact ⟨(hj _ (by decide)).trans m41, (hj _ (by decide)).trans m42, (hj _ (by decide)).trans m43, (hj _ (by decide)).trans m44, (hj _ (by decide)).trans m45, (hj _ (by decide)).trans s0, (hj _ (by decide)).trans s1, (hj _ (by decide)).trans s2, (hj _ (by decide)).trans s3, (hj _ (by decide)).trans s4⟩
theorem MX.tr {h h' : gw_H} {thr tch frs : Int32} {rc mc : Nat} (H : MX h thr rc mc tch frs) (hj : ∀ j, 40 ≤ j → j ≤ 60 → h' j = h j) : MX h' thr rc mc tch frs := by
  obtain ⟨len, ady, co, dg, rw_, go, we, avt, ati, afa, ast, q0, q1, q2, q3, q4, q5, q6, q7, q8, q9, q10⟩ := H
  exact ⟨len, ady, co, dg, rw_, go, we, avt, ati, afa, ast, (hj _ (by decide) (by decide)).trans q0, (hj _ (by decide) (by decide)).trans q1, (hj _ (by decide) (by decide)).trans q2, (hj _ (by decide) (by decide)).trans q3, (hj _ (by decide) (by decide)).trans q4, (hj _ (by decide) (by decide)).trans q5, (hj _ (by decide) (by decide)).trans q6, (hj _ (by decide) (by decide)).trans q7, (hj _ (by decide) (by decide)).trans q8, (hj _ (by decide) (by decide)).trans q9, (hj _ (by decide) (by decide)).trans q10⟩
theorem PM.fin {r : Option Value} {E h' h'' : gw_H} {nn n'' : Nat} {thr : Int32} {o : Nat → Int64} {wd : Nat → Int32} {sk : Nat → Int32} {vt : Nat → Int32} {ti : Nat → Int32} {fa : Nat → Int32} {st : Nat → Int32} {ws : Nat → Int32} {rc : Nat} {dy : Int32} {mc : Nat} {tch : Int32} {frs : Int32} {ln : Nat → Nat} {lds : Nat → Nat} {rws : Nat → Int32} {frx : Nat → Int32} {hos : Nat → Int32} {chs : Nat → Nat → Int32} {dgs : Nat → Nat → Int32} {cs : Nat → Int32} {rv : Option Value} (hp : PM r E nn thr rc mc tch frs rv h'' n'') (hC : CIv h' wd sk vt ti fa st ws rc dy mc tch frs ln lds rws frx hos chs dgs) (h40 : ∀ j, j < 40 → E j = h' j) (hM : MIc E wd sk vt ti fa st ws dy ln cs) (h61 : E 61 = aJ 1 o) (hG : GDs sk vt st rc mc ln lds rws frx hos chs dgs cs) (hn : 62 ≤ nn) : INV h'' n'' thr o := by
  obtain ⟨-, rfl, hK, hX⟩ := hp
  exact ⟨hn, (hK _ (by omega)).trans h61, _, _, _, _, _, _, _, _, _, _, _, _, _, _, _, _, _, _, _, _, hC.tr40 (fun j hj => (hK j (Or.inl hj)).trans (h40 j hj)), hX, hM.tr (fun j hj => hK j (by omega)), hG⟩
theorem INV.m40 {h : gw_H} {n : Nat} {thr : Int32} {o : Nat → Int64} (hI : INV h n thr o) : ∃ (rc mc : Nat) (tch frs len : Int32), h 40 = oB 5 [.int thr, .int (nI rc), .ref 41, .ref 42, .ref 43, .int (nI mc), .ref 44, .ref 45, .int tch, .int frs, .ref 46, .ref 47, .int len, .ref 48, .ref 49, .ref 50, .ref 51, .ref 56] := by
  obtain ⟨-, -, wd, sk, vt, ti, fa, st, ws, rc, dy, mc, tch, frs, ln, lds, rws, frx, hos, chs, dgs, cs, -, hX, -, -⟩ := hI
  obtain ⟨len, ady, co, dg, rw_, go, we, avt, ati, afa, ast, m0, -⟩ := hX
  exact ⟨rc, mc, tch, frs, len, m0⟩
def PAIR (l : Launch) (K : gw_K) (h : gw_H) (n : Nat) (mL : gw_M) (hh : gw_T) (mM : gw_M) (Wa Ma : List Value) : Prop := ∃ (k : Nat) (P : Option Value → gw_H → Nat → Prop), CtrH l K mL hh Wa h n 1 6 P PX0 ∧ ∀ rv h' n', P rv h' n' → rv = some (.int (nI k)) ∧ n' = n ∧ k < 4 ∧ ∃ (mc ms : Nat) (P2 : Option Value → gw_H → Nat → Prop) (o' : Nat → Int64), mc ≤ 1 ∧ ms ≤ 20 ∧ h' 61 = aJ 1 o' ∧ (∃ fs, h' 40 = oB 5 fs) ∧ Ctr l K mM Ma h' n mc ms P2 PX0 ∧ ∀ rv2 h'' n'', P2 rv2 h'' n'' → ∃ v, rv2 = some (.int v) ∧ n ≤ n'' ∧ INV h'' n'' (nI k) o' ∧ (k = 0 → o' 0 = v.toInt64)
theorem gn_in {x : Int32} {b : Nat} (hb : b < 1000) (h : ¬ (x < nI 0 ∨ nI b < x)) : ∃ k, k ≤ b ∧ x = nI k := by
  rcases pk_ix x (n := b + 1) (by omega) with q | q | ⟨j, h1, h2⟩
  · exact absurd (Or.inl q) h
  · exact absurd (Or.inr (gn_up hb q)) h
  · exact ⟨j, by omega, h2⟩
theorem clamp_pos (v : Int32) : 0 ≤ clampI v := by
  unfold clampI
  by_cases h : nI 0 < (if v < nI 99 then v else nI 99)
  · rw [if_pos h]; exact Int32.le_of_lt h
  · rw [if_neg h]; decide
theorem at_none {st : Nat → Int32} {x : Int32} : ∀ k i, ffi (fun r => decide (st r = x)) i k = -1 → i + k ≤ 1000 → ∀ r, i ≤ r → r < i + k → ¬ st r = x := by
  intro k
  induction k with
  | zero => intro i _ _ r h1 h2; omega
  | succ k ih =>
    intro i h hb r h1 h2
    unfold ffi at h
    by_cases e : st i = x
    · rw [if_pos (decide_eq_true e)] at h
      have h3 := nI_pos (n := i) (by omega)
      rw [h] at h3
      exact absurd (by decide) h3
    · rw [if_neg (by simpa using e)] at h
      by_cases q : r = i
      · subst q; exact e
      · exact ih (i + 1) h (by omega) r (by omega) (by omega)
theorem seatI_clear {st : Nat → Int32} {rc a : Nat} (h : seatI st rc) : seatI (upd st a (-1)) rc := by
  intro r hr
  unfold upd
  by_cases e : r = a
  · rw [if_pos e]
    exact ⟨so_none, fun q hq he hn => absurd rfl hn⟩
  · rw [if_neg e]
    refine ⟨(h r hr).1, fun q hq he hn => ?_⟩
    by_cases e2 : q = a
    · rw [if_pos e2] at he; exact absurd he hn
    · rw [if_neg e2] at he; exact (h r hr).2 q hq he hn
theorem seatI_put {st : Nat → Int32} {rc a s : Nat} (h : seatI st rc) (hs : s < 18) (hf : ∀ r, r < rc → ¬ st r = nI s) : seatI (upd st a (nI s)) rc := by
  intro r hr
  unfold upd
  by_cases e : r = a
  · rw [if_pos e]
    refine ⟨Or.inr ⟨s, hs, rfl⟩, fun q hq he hn => ?_⟩
    by_cases e2 : q = a
    · omega
    · rw [if_neg e2] at he; exact absurd he.symm (hf q hq)
  · rw [if_neg e]
    refine ⟨(h r hr).1, fun q hq he hn => ?_⟩
    by_cases e2 : q = a
    · rw [if_pos e2] at he; exact absurd he (hf r hr)
    · rw [if_neg e2] at he; exact (h r hr).2 q hq he hn
theorem seatI_more {st : Nat → Int32} {rc : Nat} (h : seatI st rc) : seatI (upd st rc (-1)) (rc + 1) := by
  intro r hr
  unfold upd
  by_cases e : r = rc
  · rw [if_pos e]
    exact ⟨so_none, fun q hq he hn => absurd rfl hn⟩
  · rw [if_neg e]
    refine ⟨(h r (by omega)).1, fun q hq he hn => ?_⟩
    by_cases e2 : q = rc
    · rw [if_pos e2] at he; exact absurd he hn
    · rw [if_neg e2] at he; exact (h r (by omega)).2 q (by omega) he hn
