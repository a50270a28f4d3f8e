/-! the tower's numbers -/
def bandI (x : Int32) : Int32 := if x = -1 then -1 else x / nI 6
def bellI (x : Int32) : Int32 := if x = -1 then -1 else x - x / nI 6 * nI 6
/-- the first of N places where p holds, from i on; -1 without one -/
def ffi (p : Nat → Bool) : Nat → Nat → Int32
  | _, 0 => -1
  | i, k + 1 => if p i then nI i else ffi p (i + 1) k
theorem ffi_step {p : Nat → Bool} {i N : Nat} (h : i < N) : ffi p i (N - i) = if p i then nI i else ffi p (i + 1) (N - (i + 1)) := by
  have e : N - i = (N - (i + 1)) + 1 := by omega
  rw [e]; rfl
def atI (st : Nat → Int32) (rc : Nat) (x : Int32) : Int32 := ffi (fun r => decide (st r = x)) 0 rc
def rankI (wd vt : Nat → Int32) (rc r : Nat) : Int32 := itr (fun o s => if wd o = wd r ∧ vt r < vt o then s + 1 else s) rc (nI 1)
def cntI (st : Nat → Int32) (rc : Nat) (b : Int32) : Int32 := itr (fun r s => if bandI (st r) = b then s + 1 else s) rc (nI 0)
def busyI (st : Nat → Int32) (rc : Nat) : Int32 := itr (fun b s => s + cntI st rc (nI b)) 3 (nI 0)
def fullI (st : Nat → Int32) (rc : Nat) : Int32 := itr (fun b s => if cntI st rc (nI b) = nI 6 then s + 1 else s) 3 (nI 0)
def skillI (st sk : Nat → Int32) (rc : Nat) : Int32 := itr (fun r s => if st r = -1 then s else s + sk r) rc (nI 0)
def sumI (f : Nat → Int32) (rc : Nat) : Int32 := itr (fun r s => s + f r) rc (nI 0)
def freshI (st ti : Nat → Int32) (rc : Nat) (b : Int32) : Int32 := itr (fun r s => if bandI (st r) = b ∧ ti r < nI 15 then s + 1 else s) rc (nI 0)
def clampI (v : Int32) : Int32 := if nI 0 < (if v < nI 99 then v else nI 99) then (if v < nI 99 then v else nI 99) else nI 0
def bestP (wd vt st : Nat → Int32) (w : Int32) (r : Nat) (s : Int32 × Int32) : Int32 × Int32 := if st r = -1 ∧ wd r = w ∧ s.2 < vt r then (nI r, vt r) else s
def bestI (wd vt st : Nat → Int32) (rc : Nat) (w : Int32) : Int32 := (itr (bestP wd vt st w) rc (-1, -1)).1
def elTo (wd vt ws : Nat → Int32) (rc : Nat) (st : Nat → Int32) (seat : Nat) : Nat → Int32 := if bestI wd vt st rc (ws seat) = -1 then st else upd st (bestI wd vt st rc (ws seat)).toNatClampNeg (nI seat)
def clrB (st : Nat → Int32) (rc : Nat) (b : Int32) : Nat → Int32 := itr (fun r s => if bandI (s r) = b then upd s r (-1) else s) rc st
def elB (wd vt ws : Nat → Int32) (rc : Nat) (st : Nat → Int32) (b : Nat) : Nat → Int32 := itr (fun k s => elTo wd vt ws rc s (b * 6 + k)) 6 (clrB st rc (nI b))
def el3 (wd vt ws : Nat → Int32) (rc : Nat) (st : Nat → Int32) : Nat → Int32 := itr (fun b s => elB wd vt ws rc s b) 3 st
def restI (st ti : Nat → Int32) (rc : Nat) : Nat → Int32 := itr (fun r s => upd s r (if nI 0 < s r - (if st r = -1 then nI 5 else nI 3) then s r - (if st r = -1 then nI 5 else nI 3) else nI 0)) rc ti
/-- a day: tired, seats, the day -/
def dayI (wd vt ws : Nat → Int32) (rc : Nat) (s : (Nat → Int32) × (Nat → Int32) × Int32) : (Nat → Int32) × (Nat → Int32) × Int32 := (restI s.2.1 s.1 rc, if s.2.2 - s.2.2 / nI 7 * nI 7 = nI 6 then el3 wd vt ws rc s.2.1 else s.2.1, s.2.2 + 1)
def daysI (wd vt ws : Nat → Int32) (rc d : Nat) (s : (Nat → Int32) × (Nat → Int32) × Int32) : (Nat → Int32) × (Nat → Int32) × Int32 := itr (fun _ s => dayI wd vt ws rc s) d s
def movedI (st st2 : Nat → Int32) (rc : Nat) : Int32 := itr (fun r s => if st r = st2 r then s else s + 1) rc (nI 0)
def tellI (wd sk vt ti fa st : Nat → Int32) (rc r q : Nat) : Int32 := if q = 0 then wd r else if q = 1 then sk r else if q = 2 then vt r else if q = 3 then ti r else if q = 4 then bandI (st r) else if q = 5 then bellI (st r) else if q = 6 then fa r else rankI wd vt rc r
theorem best_in (wd vt st : Nat → Int32) (w : Int32) : ∀ (k : Nat), (itr (bestP wd vt st w) k (-1, -1)).1 = -1 ∨ ∃ b, b < k ∧ (itr (bestP wd vt st w) k (-1, -1)).1 = nI b := by
  intro k
  induction k with
  | zero => exact Or.inl rfl
  | succ k ih =>
    show (bestP wd vt st w k (itr (bestP wd vt st w) k (-1, -1))).1 = -1 ∨ ∃ b, b < k + 1 ∧ (bestP wd vt st w k (itr (bestP wd vt st w) k (-1, -1))).1 = nI b
    unfold bestP
    split
    · exact Or.inr ⟨k, by omega, rfl⟩
    · rcases ih with h | ⟨b, h1, h2⟩
      · exact Or.inl h
      · exact Or.inr ⟨b, by omega, h2⟩
theorem bestI_in {wd vt st : Nat → Int32} {rc : Nat} {w : Int32} (hrc : rc ≤ 20) (h : ¬ bestI wd vt st rc w = -1) : (bestI wd vt st rc w).toNatClampNeg < 20 ∧ bestI wd vt st rc w = nI (bestI wd vt st rc w).toNatClampNeg := by
  rcases best_in wd vt st w rc with h1 | ⟨b, h1, h2⟩
  · exact absurd h1 h
  · have h3 : bestI wd vt st rc w = nI b := h2
    rw [h3, nI_clamp (by omega)]
    exact ⟨by omega, rfl⟩
