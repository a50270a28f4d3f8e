/-! the tower's numbers -/
theorem gn_okI {r z : Nat} (hr : r < z) (hz : z < 2147483648) : ¬ (nI r < 0 ∨ nI z ≤ nI r) := by
  rintro (h | h)
  · exact nI_pos (by omega) h
  · exact absurd ((gn_le ⟨hz, by omega⟩).mp h) (by omega)
theorem gn_okW {v a b : Nat} (h1 : a ≤ v) (h2 : v ≤ b) (hb : b < 2147483648) : ¬ (nI v < nI a ∨ nI b < nI v) := by
  rintro (h | h)
  · exact absurd ((gn_lt ⟨by omega, by omega⟩).mp h) (by omega)
  · exact absurd ((gn_lt ⟨by omega, by omega⟩).mp h) (by omega)
theorem gn_okS {a b : Nat} (ha : a < 3) (hb : b < 6) : ¬ ((nI a < 0 ∨ nI 3 ≤ nI a) ∨ (nI b < 0 ∨ nI 6 ≤ nI b)) := by
  rintro (h | h)
  · exact gn_okI ha (by omega) h
  · exact gn_okI hb (by omega) h

def bandI (x : Int32) : Int32 := if x = -1 then -1 else x / nI 6
def bellI (x : Int32) : Int32 := if x = -1 then -1 else x - x / nI 6 * nI 6
/-- the first of N places where p holds, from i on; -1 without one -/
def ffi (p : Nat → Bool) : Nat → Nat → Int32
  | _, 0 => -1
  | i, k + 1 => if p i then nI i else ffi p (i + 1) k
theorem ffi_step {p : Nat → Bool} {i N : Nat} (h : i < N) : ffi p i (N - i) = if p i then nI i else ffi p (i + 1) (N - (i + 1)) := by
  have e : N - i = (N - (i + 1)) + 1 := by omega
  rw [e]; rfl
def atI (st : Nat → Int32) (rc : Nat) (x : Int32) : Int32 := ffi (fun r => decide (st r = x)) 0 rc
def rankI (wd vt : Nat → Int32) (rc r : Nat) : Int32 := itr (fun o s => if wd o = wd r ∧ vt r < vt o then s + 1 else s) rc (nI 1)
def cntI (st : Nat → Int32) (rc : Nat) (b : Int32) : Int32 := itr (fun r s => if bandI (st r) = b then s + 1 else s) rc (nI 0)
def busyI (st : Nat → Int32) (rc : Nat) : Int32 := itr (fun b s => s + cntI st rc (nI b)) 3 (nI 0)
def fullI (st : Nat → Int32) (rc : Nat) : Int32 := itr (fun b s => if cntI st rc (nI b) = nI 6 then s + 1 else s) 3 (nI 0)
def skillI (st sk : Nat → Int32) (rc : Nat) : Int32 := itr (fun r s => if st r = -1 then s else s + sk r) rc (nI 0)
def sumI (f : Nat → Int32) (rc : Nat) : Int32 := itr (fun r s => s + f r) rc (nI 0)
def freshI (st ti : Nat → Int32) (rc : Nat) (b : Int32) : Int32 := itr (fun r s => if bandI (st r) = b ∧ ti r < nI 15 then s + 1 else s) rc (nI 0)
def clampI (v : Int32) : Int32 := if nI 0 < (if v < nI 99 then v else nI 99) then (if v < nI 99 then v else nI 99) else nI 0
def bestP (wd vt st : Nat → Int32) (w : Int32) (r : Nat) (s : Int32 × Int32) : Int32 × Int32 := if st r = -1 ∧ wd r = w ∧ s.2 < vt r then (nI r, vt r) else s
def bestI (wd vt st : Nat → Int32) (rc : Nat) (w : Int32) : Int32 := (itr (bestP wd vt st w) rc (-1, -1)).1
def elTo (wd vt ws : Nat → Int32) (rc : Nat) (st : Nat → Int32) (seat : Nat) : Nat → Int32 := if bestI wd vt st rc (ws seat) = -1 then st else upd st (bestI wd vt st rc (ws seat)).toNatClampNeg (nI seat)
def clrB (st : Nat → Int32) (rc : Nat) (b : Int32) : Nat → Int32 := itr (fun r s => if bandI (s r) = b then upd s r (-1) else s) rc st
def elB (wd vt ws : Nat → Int32) (rc : Nat) (st : Nat → Int32) (b : Nat) : Nat → Int32 := itr (fun k s => elTo wd vt ws rc s (b * 6 + k)) 6 (clrB st rc (nI b))
def el3 (wd vt ws : Nat → Int32) (rc : Nat) (st : Nat → Int32) : Nat → Int32 := itr (fun b s => elB wd vt ws rc s b) 3 st
def restI (st ti : Nat → Int32) (rc : Nat) : Nat → Int32 := itr (fun r s => upd s r (if nI 0 < s r - (if st r = -1 then nI 5 else nI 3) then s r - (if st r = -1 then nI 5 else nI 3) else nI 0)) rc ti
/-- a day: tired, seats, the day -/
def dayI (wd vt ws : Nat → Int32) (rc : Nat) (s : (Nat → Int32) × (Nat → Int32) × Int32) : (Nat → Int32) × (Nat → Int32) × Int32 := (restI s.2.1 s.1 rc, if s.2.2 - s.2.2 / nI 7 * nI 7 = nI 6 then el3 wd vt ws rc s.2.1 else s.2.1, s.2.2 + 1)
def daysI (wd vt ws : Nat → Int32) (rc d : Nat) (s : (Nat → Int32) × (Nat → Int32) × Int32) : (Nat → Int32) × (Nat → Int32) × Int32 := itr (fun _ s => dayI wd vt ws rc s) d s
def movedI (st st2 : Nat → Int32) (rc : Nat) : Int32 := itr (fun r s => if st r = st2 r then s else s + 1) rc (nI 0)
def tellI (wd sk vt ti fa st : Nat → Int32) (rc r q : Nat) : Int32 := if q = 0 then wd r else if q = 1 then sk r else if q = 2 then vt r else if q = 3 then ti r else if q = 4 then bandI (st r) else if q = 5 then bellI (st r) else if q = 6 then fa r else rankI wd vt rc r
theorem best_in (wd vt st : Nat → Int32) (w : Int32) : ∀ (k : Nat), (itr (bestP wd vt st w) k (-1, -1)).1 = -1 ∨ ∃ b, b < k ∧ (itr (bestP wd vt st w) k (-1, -1)).1 = nI b := by
  intro k
  induction k with
  | zero => exact Or.inl rfl
  | succ k ih =>
    show (bestP wd vt st w k (itr (bestP wd vt st w) k (-1, -1))).1 = -1 ∨ ∃ b, b < k + 1 ∧ (bestP wd vt st w k (itr (bestP wd vt st w) k (-1, -1))).1 = nI b
    unfold bestP
    split
    · exact Or.inr ⟨k, by omega, rfl⟩
    · rcases ih with h | ⟨b, h1, h2⟩
      · exact Or.inl h
      · exact Or.inr ⟨b, by omega, h2⟩
theorem bestI_in {wd vt st : Nat → Int32} {rc : Nat} {w : Int32} (hrc : rc ≤ 20) (h : ¬ bestI wd vt st rc w = -1) : (bestI wd vt st rc w).toNatClampNeg < 20 ∧ bestI wd vt st rc w = nI (bestI wd vt st rc w).toNatClampNeg := by
  rcases best_in wd vt st w rc with h1 | ⟨b, h1, h2⟩
  · exact absurd h1 h
  · have h3 : bestI wd vt st rc w = nI b := h2
    rw [h3, nI_clamp (by omega)]
    exact ⟨by omega, rfl⟩
/-! touches -/
def ltA {α : Type} (i : Nat) (g f : Nat → α) : Nat → α := fun j => if j < i then g j else f j
theorem ltA_0 {α : Type} (g f : Nat → α) : ltA 0 g f = f := by funext j; simp [ltA]
theorem ltA_at {α : Type} (i : Nat) (g f : Nat → α) : ltA i g f i = f i := by simp [ltA]
theorem ltA_N {α : Type} {g f : Nat → α} {N k : Nat} (hk : k < N) : ltA N g f k = g k := by simp [ltA, hk]
theorem ltA_up (i : Nat) (g f : Nat → Int32) {v : Int32} (hv : v = g i) : upd (ltA i g f) i v = ltA (i + 1) g f := by
  funext j
  unfold upd ltA
  by_cases h1 : j = i
  · subst h1; simp [hv]
  · rw [if_neg h1]
    by_cases h2 : j < i
    · rw [if_pos h2, if_pos (by omega)]
    · rw [if_neg h2, if_neg (by omega)]
theorem ltA_upL (i : Nat) (g f : Nat → Int64) {v : Int64} (hv : v = g i) : vp_updL (ltA i g f) i v = ltA (i + 1) g f := by
  funext j
  unfold vp_updL ltA
  by_cases h1 : j = i
  · subst h1; simp [hv]
  · rw [if_neg h1]
    by_cases h2 : j < i
    · rw [if_pos h2, if_pos (by omega)]
    · rw [if_neg h2, if_neg (by omega)]
def mvI (x c : Int32) : Int32 := if ¬ (c >>> (x &&& 31)) &&& nI 1 = 0 then nI 1 else if 0 < x ∧ ¬ (c >>> ((x - nI 1) &&& 31)) &&& nI 1 = 0 then -1 else nI 0
def keyN (p : Nat → Nat) : Nat := itr (fun b s => s * 6 + p b) 5 0
theorem keyN_lt {p : Nat → Nat} (hp : ∀ b, b < 6 → p b < 6) : keyN p < 7776 := by
  have h0 := hp 0 (by omega); have h1 := hp 1 (by omega); have h2 := hp 2 (by omega); have h3 := hp 3 (by omega); have h4 := hp 4 (by omega)
  show ((((0 * 6 + p 0) * 6 + p 1) * 6 + p 2) * 6 + p 3) * 6 + p 4 < 7776
  omega
def bitL (k : Nat) : Int64 := 1 <<< ((nI (k % 64)).toInt64 &&& 63)
def noteI (sn : Nat → Int64) (k : Nat) : Nat → Int64 := vp_updL sn (k / 64) (sn (k / 64) ||| bitL k)
def rrI (sn : Nat → Int64) (k : Nat) (rr : Int32) : Int32 := if lg_cmp (sn (k / 64) &&& bitL k) 0 = 0 then rr else rr + nI 1
def homeI (p : Nat → Nat) : Int32 := itr (fun b s => if p b = b then s + 1 else s) 6 (nI 0)
def frI (p : Nat → Nat) (cm rr : Int32) : Int32 := if homeI p = nI 6 ∧ 0 < cm then rr - nI 1 else rr
def ffz (p : Nat → Bool) : Nat → Nat → Int32
  | _, 0 => nI 0
  | i, k + 1 => if p i then nI i else ffz p (i + 1) k
theorem ffz_step {p : Nat → Bool} {i N : Nat} (h : i < N) : ffz p i (N - i) = if p i then nI i else ffz p (i + 1) (N - (i + 1)) := by
  have e : N - i = (N - (i + 1)) + 1 := by omega
  rw [e]; rfl
def bellAtI (p : Nat → Nat) (x : Nat) : Int32 := ffz (fun b => decide (p b = x)) 0 6
def rowI (p : Nat → Nat) : Int32 := itr (fun x s => s * nI 6 + bellAtI p x) 6 (nI 0)
/-- a touch: places, moves, moves ahead, rows seen, changes, rows again -/
abbrev TT : Type := (Nat → Nat) × (Nat → Int32) × (Nat → Int32) × (Nat → Int64) × Int32 × Int32
def tplc (p : Nat → Nat) (c : Int32) : Nat → Nat := fun b => (nI (p b) + mvI (nI (p b)) c).toNatClampNeg
def tstep (c : Int32) (t : TT) : TT := (tplc t.1 c, fun b => mvI (nI (t.1 b)) c, t.2.1, noteI t.2.2.2.1 (keyN (tplc t.1 c)), t.2.2.2.2.1 + nI 1, rrI t.2.2.2.1 (keyN (tplc t.1 c)) t.2.2.2.2.2)
def tbegin (ma : Nat → Int32) : TT := (fun b => b, fun _ => nI 0, ma, noteI (fun _ => 0) (keyN fun b => b), nI 0, rrI (fun _ => 0) (keyN fun b => b) (nI 0))
def vchg (c : Int32) : Prop := ∃ d : Nat, d < 32 ∧ c = nI d ∧ d &&& (d >>> 1) = 0
def vplc (p : Nat → Nat) : Prop := ∀ b, b < 6 → p b < 6
set_option maxRecDepth 20000 in
theorem tplc_dec : ∀ d, d < 32 → ∀ x, x < 6 → d &&& (d >>> 1) = 0 → nI x + mvI (nI x) (nI d) = nI ((nI x + mvI (nI x) (nI d)).toNatClampNeg) ∧ (nI x + mvI (nI x) (nI d)).toNatClampNeg < 6 := by decide +kernel
theorem tplc_eq {p : Nat → Nat} {c : Int32} (hc : vchg c) (hp : vplc p) {b : Nat} (hb : b < 6) : nI (p b) + mvI (nI (p b)) c = nI (tplc p c b) := by
  obtain ⟨d, h1, rfl, h2⟩ := hc
  exact (tplc_dec d h1 (p b) (hp b hb) h2).1
theorem tplc_ok {p : Nat → Nat} {c : Int32} (hc : vchg c) (hp : vplc p) : vplc (tplc p c) := fun b hb => by
  obtain ⟨d, h1, rfl, h2⟩ := hc
  exact (tplc_dec d h1 (p b) (hp b hb) h2).2
abbrev dodI (mv ma : Nat → Int32) (b : Nat) : Prop := ¬ mv b = 0 ∧ mv b = -ma b
theorem itr_inv {σ : Type} {f : Nat → σ → σ} {I : σ → Prop} {N : Nat} {s0 : σ} (h0 : I s0) (hs : ∀ i s, i < N → I s → I (f i s)) : ∀ k, k ≤ N → I (itr f k s0) := by
  intro k
  induction k with
  | zero => intro _; exact h0
  | succ k ih => intro hk; exact hs k _ (by omega) (ih (by omega))
def dodAdd (mv ma d : Nat → Int32) : Nat → Int32 := itr (fun b d => if dodI mv ma b then upd d b (d b + nI 1) else d) 6 d
def ldStep (c : Int32) (s : TT × (Nat → Int32)) : TT × (Nat → Int32) := (tstep c s.1, dodAdd (tstep c s.1).2.1 (tstep c s.1).2.2.1 s.2)
def leadI (ch : Nat → Int32) (m : Nat) (s : TT × (Nat → Int32)) : TT × (Nat → Int32) := itr (fun i s => ldStep (ch i) s) m s
theorem lead_ok {ch : Nat → Int32} {m : Nat} {s : TT × (Nat → Int32)} (hc : ∀ i, i < m → vchg (ch i)) (hp : vplc s.1.1) : ∀ k, k ≤ m → vplc (itr (fun i s => ldStep (ch i) s) k s).1.1 :=
  itr_inv (I := fun (s : TT × (Nat → Int32)) => vplc s.1.1) hp fun i _ hi h => tplc_ok (hc i hi) h
def crs (ch : Nat → Int32) (m : Nat) : Nat → Nat → TT × (Nat → Int32) → Nat × (TT × (Nat → Int32))
  | 0, n, s => (n, s)
  | f + 1, n, s => if homeI s.1.1 = nI 6 then (n, s) else crs ch m f (n + 1) (leadI ch m s)
def crs1 (ch : Nat → Int32) (m : Nat) (ma : Nat → Int32) : TT × (Nat → Int32) := leadI ch m (tbegin ma, fun _ => nI 0)
def crsI (ch : Nat → Int32) (m : Nat) (ma : Nat → Int32) : Nat × (TT × (Nat → Int32)) := crs ch m 5 1 (crs1 ch m ma)
theorem leads_ok {ch : Nat → Int32} {m : Nat} {s : TT × (Nat → Int32)} (hc : ∀ i, i < m → vchg (ch i)) (hp : vplc s.1.1) (N : Nat) : ∀ k, k ≤ N → vplc (itr (fun _ s => leadI ch m s) k s).1.1 :=
  itr_inv (I := fun (s : TT × (Nat → Int32)) => vplc s.1.1) hp fun _ _ _ h => lead_ok hc h m (Nat.le_refl m)
theorem crs1_ok {ch : Nat → Int32} {m : Nat} {ma : Nat → Int32} (hc : ∀ i, i < m → vchg (ch i)) : vplc (crs1 ch m ma).1.1 := lead_ok hc (fun _ h => h) m (Nat.le_refl m)
theorem crs_step {ch : Nat → Int32} {m : Nat} {s : TT × (Nat → Int32)} {i : Nat} (hi : i < 5) (h : ¬ homeI (itr (fun _ s => leadI ch m s) i s).1.1 = nI 6) : crs ch m (5 - i) (1 + i) (itr (fun _ s => leadI ch m s) i s) = crs ch m (5 - (i + 1)) (1 + (i + 1)) (itr (fun _ s => leadI ch m s) (i + 1) s) := by
  have e : 5 - i = (5 - (i + 1)) + 1 := by omega
  rw [e, crs, if_neg h]
  rfl
theorem crs_end {ch : Nat → Int32} {m : Nat} {s : TT × (Nat → Int32)} {i : Nat} (hi : i < 5) (h : homeI (itr (fun _ s => leadI ch m s) i s).1.1 = nI 6) : crs ch m (5 - i) (1 + i) (itr (fun _ s => leadI ch m s) i s) = (1 + i, itr (fun _ s => leadI ch m s) i s) := by
  have e : 5 - i = (5 - (i + 1)) + 1 := by omega
  rw [e, crs, if_pos h]
def aboutI (m : Nat) (ld rw_ fr : Int32) (dg : Nat → Int32) (ho : Int32) (q : Nat) : Int32 := if q = 0 then nI m else if q = 1 then ld else if q = 2 then rw_ else if q = 3 then fr else if q = 4 then sumI dg 6 else ho
/-- a touch's five cells -/
def putT (h : gw_H) (u : Nat) (t : TT) : gw_H := hs (hs (hs (hs (hs h u (oB 1 [.ref (u + 1), .ref (u + 2), .ref (u + 3), .ref (u + 4), .int t.2.2.2.2.1, .int t.2.2.2.2.2])) (u + 1) (aI 6 (fun b => nI (t.1 b)))) (u + 2) (aI 6 t.2.1)) (u + 3) (aI 6 t.2.2.1)) (u + 4) (aJ 122 t.2.2.2.1)
theorem putT_0 {h : gw_H} {u : Nat} {t : TT} : putT h u t u = oB 1 [.ref (u + 1), .ref (u + 2), .ref (u + 3), .ref (u + 4), .int t.2.2.2.2.1, .int t.2.2.2.2.2] := (hs_ne (by omega)).trans ((hs_ne (by omega)).trans ((hs_ne (by omega)).trans ((hs_ne (by omega)).trans (hs_eq _ _ _))))
theorem putT_1 {h : gw_H} {u : Nat} {t : TT} : putT h u t (u + 1) = aI 6 (fun b => nI (t.1 b)) := (hs_ne (by omega)).trans ((hs_ne (by omega)).trans ((hs_ne (by omega)).trans (hs_eq _ _ _)))
theorem putT_2 {h : gw_H} {u : Nat} {t : TT} : putT h u t (u + 2) = aI 6 t.2.1 := (hs_ne (by omega)).trans ((hs_ne (by omega)).trans (hs_eq _ _ _))
theorem putT_3 {h : gw_H} {u : Nat} {t : TT} : putT h u t (u + 3) = aI 6 t.2.2.1 := (hs_ne (by omega)).trans (hs_eq _ _ _)
theorem putT_4 {h : gw_H} {u : Nat} {t : TT} : putT h u t (u + 4) = aJ 122 t.2.2.2.1 := hs_eq _ _ _
theorem putT_ne {h : gw_H} {u j : Nat} {t : TT} (hj : j < u ∨ u + 5 ≤ j) : putT h u t j = h j := (hs_ne (by omega)).trans ((hs_ne (by omega)).trans ((hs_ne (by omega)).trans ((hs_ne (by omega)).trans (hs_ne (by omega)))))
theorem putT_putT {h : gw_H} {u : Nat} {t t' : TT} : putT (putT h u t) u t' = putT h u t' := by
  funext j
  unfold putT hs
  repeat' split
  all_goals rfl
theorem putT_lo {h : gw_H} {u k : Nat} {t : TT} {e : gw_E} (hk : k < u) : hs (putT h u t) k e = putT (hs h k e) u t := by
  funext j
  unfold putT hs
  by_cases h0 : j = k
  · subst h0
    rw [if_pos rfl, if_neg (by omega), if_neg (by omega), if_neg (by omega), if_neg (by omega), if_neg (by omega), if_pos rfl]
  · rw [if_neg h0, if_neg h0]
theorem putT_hi {h : gw_H} {u k : Nat} {t : TT} {e : gw_E} (hk : u + 5 ≤ k) : putT (hs h k e) u t = hs (putT h u t) k e := by
  funext j
  unfold putT hs
  by_cases h0 : j = k
  · subst h0
    rw [if_neg (by omega), if_neg (by omega), if_neg (by omega), if_neg (by omega), if_neg (by omega), if_pos rfl, if_pos rfl]
  · rw [if_neg h0, if_neg h0]
theorem putT_id {h : gw_H} {u : Nat} {t : TT} (h0 : h u = oB 1 [.ref (u + 1), .ref (u + 2), .ref (u + 3), .ref (u + 4), .int t.2.2.2.2.1, .int t.2.2.2.2.2]) (h1 : h (u + 1) = aI 6 (fun b => nI (t.1 b))) (h2 : h (u + 2) = aI 6 t.2.1) (h3 : h (u + 3) = aI 6 t.2.2.1) (h4 : h (u + 4) = aJ 122 t.2.2.2.1) : putT h u t = h := by
  unfold putT
  rw [hs_id h0, hs_id h1, hs_id h2, hs_id h3, hs_id h4]
/-! ringing -/
def bellN (x : Int32) : Nat := (bellI x).toNatClampNeg
def seatOK (x : Int32) : Prop := x = -1 ∨ ∃ s, s < 18 ∧ x = nI s
set_option maxRecDepth 20000 in
theorem bell_dec : ∀ s, s < 18 → bellI (nI s) = nI (bellN (nI s)) ∧ bellN (nI s) < 6 := by decide +kernel
theorem band_no {b : Nat} (hb : b < 3) : ¬ bandI (-1) = nI b := by
  rcases (show b = 0 ∨ b = 1 ∨ b = 2 by omega) with rfl | rfl | rfl <;> decide
theorem bell_ok {x : Int32} {b : Nat} (h : seatOK x) (hb3 : b < 3) (hb : bandI x = nI b) : bellI x = nI (bellN x) ∧ bellN x < 6 := by
  rcases h with rfl | ⟨s, h1, rfl⟩
  · exact absurd hb (band_no hb3)
  · exact bell_dec s h1
abbrev TR : Type := (Nat → Int32) × (Nat → Int32) × (Nat → Int32)
def tiredV (x : Int32) : Int32 := if x + nI 1 < nI 20 then x + nI 1 else nI 20
def tireS (sk : Nat → Int32) (r : Nat) (s : TR) : TR := if nI 2 * sk r < tiredV (s.1 r) then (upd s.1 r (tiredV (s.1 r)), upd s.2.1 r (s.2.1 r + nI 1), upd s.2.2 r (s.2.2 r + nI 1)) else (upd s.1 r (tiredV (s.1 r)), s.2.1, s.2.2)
def tdP (st sk : Nat → Int32) (b : Nat) (mv ma : Nat → Int32) (r : Nat) (s : TR) : TR := if bandI (st r) = nI b ∧ dodI mv ma (bellN (st r)) then tireS sk r s else s
def tdI (st sk : Nat → Int32) (rc b : Nat) (mv ma : Nat → Int32) (s : TR) : TR := itr (tdP st sk b mv ma) rc s
def rtS (st sk : Nat → Int32) (rc b : Nat) (c : Int32) (s : TT × TR) : TT × TR := (tstep c s.1, tdI st sk rc b (tstep c s.1).2.1 (tstep c s.1).2.2.1 s.2)
def rtL (st sk ch : Nat → Int32) (rc b m : Nat) (s : TT × TR) : TT × TR := itr (fun i s => rtS st sk rc b (ch i) s) m s
def rtA (st sk ch : Nat → Int32) (rc b m L : Nat) (s : TT × TR) : TT × TR := itr (fun _ s => rtL st sk ch rc b m s) L s
theorem rtL_ok {st sk ch : Nat → Int32} {rc b m : Nat} {s : TT × TR} (hc : ∀ i, i < m → vchg (ch i)) (hp : vplc s.1.1) : ∀ k, k ≤ m → vplc (itr (fun i s => rtS st sk rc b (ch i) s) k s).1.1 :=
  itr_inv (I := fun (s : TT × TR) => vplc s.1.1) hp fun i _ hi h => tplc_ok (hc i hi) h
theorem rtA_ok {st sk ch : Nat → Int32} {rc b m : Nat} {s : TT × TR} (hc : ∀ i, i < m → vchg (ch i)) (hp : vplc s.1.1) (L : Nat) : ∀ k, k ≤ L → vplc (itr (fun _ s => rtL st sk ch rc b m s) k s).1.1 :=
  itr_inv (I := fun (s : TT × TR) => vplc s.1.1) hp fun _ _ _ h => rtL_ok hc h m (Nat.le_refl m)
def moreI (p : Nat → Nat) (fr : Int32) (L : Nat) : Int32 := if fr = 0 ∧ homeI p = nI 6 then nI L else -fr
def vtP (st tf : Nat → Int32) (b : Nat) (mo : Int32) (r : Nat) (v : Nat → Int32) : Nat → Int32 := if bandI (st r) = nI b then upd v r (clampI (v r + (mo - tf r))) else v
def vtI (st tf : Nat → Int32) (rc b : Nat) (mo : Int32) (vt : Nat → Int32) : Nat → Int32 := itr (vtP st tf b mo) rc vt
/-- a touch rung: the touch, then tired, faults, faults of this touch -/
def ringI (st sk ti fa ch ma : Nat → Int32) (rc b m L : Nat) : TT × TR := rtA st sk ch rc b m L (tbegin ma, ti, fa, fun _ => nI 0)
def ringF (s : TT × TR) : Int32 := frI s.1.1 s.1.2.2.2.2.1 s.1.2.2.2.2.2
/-! scratch: the trial tower (10 to 18) and the touch (19 to 23) hold something -/
def TowS (h : gw_H) (t : Nat) : Prop := ∃ (wd sk vt ti fa tf st ws : Nat → Int32) (rc : Nat) (dy : Int32), h t = oB 2 [.ref (t + 1), .ref (t + 2), .ref (t + 3), .ref (t + 4), .ref (t + 5), .ref (t + 6), .ref (t + 7), .ref (t + 8), .int (nI rc), .int dy] ∧ h (t + 1) = aI 20 wd ∧ h (t + 2) = aI 20 sk ∧ h (t + 3) = aI 20 vt ∧ h (t + 4) = aI 20 ti ∧ h (t + 5) = aI 20 fa ∧ h (t + 6) = aI 20 tf ∧ h (t + 7) = aI 20 st ∧ h (t + 8) = aI 18 ws
def TouS (h : gw_H) (u : Nat) : Prop := ∃ (p mv ma : Nat → Int32) (sn : Nat → Int64) (cm rr : Int32), h u = oB 1 [.ref (u + 1), .ref (u + 2), .ref (u + 3), .ref (u + 4), .int cm, .int rr] ∧ h (u + 1) = aI 6 p ∧ h (u + 2) = aI 6 mv ∧ h (u + 3) = aI 6 ma ∧ h (u + 4) = aJ 122 sn
def PS (r : Option Value) (E : gw_H) (n : Nat) : Option Value → gw_H → Nat → Prop := fun rv h' n' => r = rv ∧ n = n' ∧ (∀ j, j < 10 ∨ 24 ≤ j → h' j = E j) ∧ TowS h' 10 ∧ TouS h' 19
theorem hs_cgj {X Y : gw_H} {k j : Nat} {e : gw_E} (h : X j = Y j) : hs X k e j = hs Y k e j := by
  unfold hs; rw [h]
set_option maxRecDepth 20000 in
theorem chg_dec : ∀ q, q < 32 → ((nI q &&& (nI q >>> (nI 1 &&& 31))) = 0 ↔ q &&& (q >>> 1) = 0) := by decide +kernel
def bellT (wd vt ws st : Nat → Int32) (rc b k q : Nat) : Int32 := if q = 0 then ws (b * 6 + k) else if q < 2 then atI st rc (nI (b * 6 + k)) else atI (elB wd vt ws rc st b) rc (nI (b * 6 + k))
def rowS (ch : Nat → Int32) (m : Nat) (s : Nat × TT) : Nat × TT := (if m ≤ s.1 + 1 then 0 else s.1 + 1, tstep (ch s.1) s.2)
def rowT (ch : Nat → Int32) (m d : Nat) (ma : Nat → Int32) : Nat × TT := itr (fun _ s => rowS ch m s) d (0, tbegin ma)
theorem rowT_ok {ch : Nat → Int32} {m : Nat} {ma : Nat → Int32} (hm : 0 < m) (hc : ∀ i, i < m → vchg (ch i)) (d : Nat) : ∀ k, k ≤ d → (itr (fun _ s => rowS ch m s) k (0, tbegin ma)).1 < m ∧ vplc (itr (fun _ s => rowS ch m s) k (0, tbegin ma)).2.1 :=
  itr_inv (I := fun (s : Nat × TT) => s.1 < m ∧ vplc s.2.1) ⟨hm, fun _ h => h⟩ fun i s _ h => ⟨by show (if m ≤ s.1 + 1 then 0 else s.1 + 1) < m; split <;> omega, tplc_ok (hc _ h.1) h.2⟩
def brought (wd vt ws st sk ti fa ch ma : Nat → Int32) (rc b m L : Nat) : Int32 := if 0 < m ∧ freshI st ti rc (nI b) = nI 6 then sumI (vtI st (ringI st sk ti fa ch ma rc b m L).2.2.2 rc b (moreI (ringI st sk ti fa ch ma rc b m L).1.1 (ringF (ringI st sk ti fa ch ma rc b m L)) L) vt) rc - sumI vt rc else -1000
theorem upd_chg {ch : Nat → Int32} {m : Nat} {v : Int32} (h : ∀ i, i < m → vchg (ch i)) (hv : vchg v) : ∀ i, i < m + 1 → vchg (upd ch m v i) := fun i hi => by
  unfold upd
  split
  · exact hv
  · exact h i (by omega)
theorem itr_first {σ : Type} {f : Nat → σ → σ} {s s' : σ} (h : f 0 s = f 0 s') : ∀ k, 0 < k → itr f k s = itr f k s' := by
  intro k
  induction k with
  | zero => intro h0; omega
  | succ k ih =>
    intro _
    by_cases hk : k = 0
    · subst hk; exact h
    · show f k (itr f k s) = f k (itr f k s')
      rw [ih (by omega)]
theorem rtL_ma {st sk ch : Nat → Int32} {rc b m : Nat} {ma ma' : Nat → Int32} {x : TR} (hm : 0 < m) : rtL st sk ch rc b m (tbegin ma, x) = rtL st sk ch rc b m (tbegin ma', x) := itr_first (f := fun i s => rtS st sk rc b (ch i) s) (s := (tbegin ma, x)) (s' := (tbegin ma', x)) rfl m hm
theorem ringI_ma {st sk ti fa ch : Nat → Int32} {rc b m L : Nat} (ma ma' : Nat → Int32) (hm : 0 < m) (hL : 0 < L) : ringI st sk ti fa ch ma rc b m L = ringI st sk ti fa ch ma' rc b m L := itr_first (f := fun _ s => rtL st sk ch rc b m s) (s := (tbegin ma, ti, fa, fun _ => nI 0)) (s' := (tbegin ma', ti, fa, fun _ => nI 0)) (rtL_ma hm) L hL
def ma0 : Nat → Int32 := fun _ => 0
theorem brought_ma {wd vt ws st sk ti fa ch : Nat → Int32} {rc b m L : Nat} (ma : Nat → Int32) (hL : 0 < L) : brought wd vt ws st sk ti fa ch ma rc b m L = brought wd vt ws st sk ti fa ch ma0 rc b m L := by
  unfold brought
  split
  · next h => rw [ringI_ma ma ma0 h.1 hL]
  · rfl
theorem crs1_ma {ch : Nat → Int32} {m : Nat} (ma : Nat → Int32) (hm : 0 < m) : crs1 ch m ma = crs1 ch m ma0 := itr_first (f := fun i s => ldStep (ch i) s) (s := (tbegin ma, fun _ => nI 0)) (s' := (tbegin ma0, fun _ => nI 0)) rfl m hm
theorem crsI_ma {ch : Nat → Int32} {m : Nat} (ma : Nat → Int32) (hm : 0 < m) : crsI ch m ma = crsI ch m ma0 := by unfold crsI; rw [crs1_ma ma hm]
def countT (vt fa st : Nat → Int32) (rc mc : Nat) (dy tch frs : Int32) (q : Nat) : Int32 := if q = 0 then dy else if q = 1 then nI rc else if q = 2 then busyI st rc else if q = 3 then nI mc else if q = 4 then fullI st rc else if q = 5 then tch else if q = 6 then frs else if q = 7 then sumI fa rc else sumI vt rc
def advP (wd vt ws st sk ti fa : Nat → Int32) (rc b : Nat) (ch : Nat → Nat → Int32) (ln ld : Nat → Nat) (k : Nat) (s : Int32 × Int32) : Int32 × Int32 := if s.2 < brought wd vt ws st sk ti fa (ch k) ma0 rc b (ln k) (ld k) then (nI k, brought wd vt ws st sk ti fa (ch k) ma0 rc b (ln k) (ld k)) else s
/-- scratch alone may have changed -/
def SCR (h h2 : gw_H) : Prop := (∀ j, j < 10 ∨ 24 ≤ j → h2 j = h j) ∧ TowS h2 10 ∧ TouS h2 19
def digR (wd sk vt ti fa st : Nat → Int32) (rc : Nat) (d : Int64) : Int64 := itr (fun r d => itr (fun q d => d * 31 + (tellI wd sk vt ti fa st rc r q).toInt64) 8 d) rc d
def digB (wd vt ws st : Nat → Int32) (rc : Nat) (d : Int64) : Int64 := itr (fun b d => itr (fun k d => itr (fun q d => d * 31 + (bellT wd vt ws st rc b k q).toInt64) 3 d) 6 d) 3 d
def digM (ln lds : Nat → Nat) (rws frs hos : Nat → Int32) (chs dgs : Nat → Nat → Int32) (mc : Nat) (d : Int64) : Int64 := itr (fun k d => itr (fun b d => d * 31 + (dgs k b).toInt64) 6 (itr (fun i d => d * 31 + (chs k i).toInt64) (ln k) (itr (fun q d => d * 31 + (aboutI (ln k) (nI (lds k)) (rws k) (frs k) (dgs k) (hos k) q).toInt64) 6 d))) mc d
def digC (vt fa st : Nat → Int32) (rc mc : Nat) (dy tch frs : Int32) (d : Int64) : Int64 := itr (fun q d => d * 31 + (countT vt fa st rc mc dy tch frs q).toInt64) 9 d
/-- the lists' cells -/
def lsF (j : Nat) : Option Nat := if j < 5 then some (25 + 3 * j) else none
