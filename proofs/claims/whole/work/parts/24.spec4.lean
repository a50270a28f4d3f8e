/-! the model: what its calls leave -/
def MX (h' : gw_H) (thr : Int32) (rc mc : Nat) (tch frs : Int32) : Prop := ∃ (len ady : Int32) (co dg rw_ go we avt ati afa ast : Nat → Int32), h' 40 = oB 5 [.int thr, .int (nI rc), .ref 41, .ref 42, .ref 43, .int (nI mc), .ref 44, .ref 45, .int tch, .int frs, .ref 46, .ref 47, .int len, .ref 48, .ref 49, .ref 50, .ref 51, .ref 56] ∧ h' 46 = aI 201 co ∧ h' 47 = aI 201 dg ∧ h' 48 = aI 6 rw_ ∧ h' 49 = aI 6 go ∧ h' 50 = aI 6 we ∧ h' 56 = oB 4 [.int ady, .ref (56 + 1), .ref (56 + 2), .ref (56 + 3), .ref (56 + 4), .ref 40] ∧ h' (56 + 1) = aI 20 avt ∧ h' (56 + 2) = aI 20 ati ∧ h' (56 + 3) = aI 20 afa ∧ h' (56 + 4) = aI 20 ast
/-- the answer r; of the cells up to 61 those outside of the model's scratch are as in E -/
def PM (r : Option Value) (E : gw_H) (n : Nat) (thr : Int32) (rc mc : Nat) (tch frs : Int32) : Option Value → gw_H → Nat → Prop := fun rv h' n' => r = rv ∧ n = n' ∧ (∀ j, j < 40 ∨ (40 < j ∧ j < 46) ∨ (50 < j ∧ j < 56) ∨ j = 61 → h' j = E j) ∧ MX h' thr rc mc tch frs
def SCM (h h2 : gw_H) (thr : Int32) (rc mc : Nat) (tch frs : Int32) : Prop := (∀ j, j < 40 ∨ (40 < j ∧ j < 46) ∨ (50 < j ∧ j < 56) ∨ j = 61 → h2 j = h j) ∧ MX h2 thr rc mc tch frs
/-- one array more -/
def PA (r : Option Value) (h : gw_H) (n : Nat) : Option Value → gw_H → Nat → Prop := fun rv h' n' => r = rv ∧ n + 1 = n' ∧ ∀ j, j < n → h' j = h j
theorem g_cn {X : gw_X} {pc : Nat} {L : List (Option Value)} {S : List Value} {h : gw_H} {n kc ks n' kc' ks' : Nat} (hn : n = n') (hk : kc = kc') (hs : ks = ks') (k : GW X pc L S h n' kc' ks') : GW X pc L S h n kc ks := by subst hn; subst hk; subst hs; exact k
def updN (f : Nat → Nat) (i v : Nat) : Nat → Nat := fun j => if j = i then v else f j
theorem updN_at {f : Nat → Nat} {i v k : Nat} : upd (fun k => nI (f k)) i (nI v) k = nI (updN f i v k) := by
  unfold upd updN; split <;> rfl
/-- the ringers at bells, counted as the model does -/
def mbP (st : Nat → Int32) (r : Nat) (s : Int32) : Int32 := if st r < 0 then s + nI 0 else s + nI 1
def mbI (st : Nat → Int32) (rc : Nat) : Int32 := itr (mbP st) rc (nI 0)
theorem itr_pair {α β : Type} {f : Nat → α → α} {g : Nat → β → β} {a : α} {b : β} : ∀ k, itr (fun i (s : α × β) => (f i s.1, g i s.2)) k (a, b) = (itr f k a, itr g k b) := by
  intro k
  induction k with
  | zero => rfl
  | succ k ih => show (f k (itr _ k (a, b)).1, g k (itr _ k (a, b)).2) = _; rw [ih]; rfl
def mcI (vt fa st : Nat → Int32) (rc mc : Nat) (dy tch frs : Int32) (q : Nat) : Int32 := if q = 0 then dy else if q = 1 then nI rc else if q = 2 then mbI st rc else if q = 3 then nI mc else if q = 4 then fullI st rc else if q = 5 then tch else if q = 6 then frs else if q = 7 then sumI fa rc else sumI vt rc
def mbrI (vt ti fa st sk ch : Nat → Int32) (rc b M L : Nat) : Int32 := if 0 < M ∧ freshI st ti rc (nI b) = nI 6 then sumI (mrI st sk (ddgI ch) rc b (mmI ch (L * M) L) (L * M) (ti, fa, vt)).2.2 rc - sumI vt rc else -1000
def mskI (st sk : Nat → Int32) (rc : Nat) : Int32 × Int32 := itr (fun r s => if st r < 0 then s else (s.1 + nI 1, s.2 + sk r)) rc (nI 0, nI 0)
set_option maxRecDepth 20000 in
theorem chl_dec : ∀ q, q < 32 → ((nI q &&& (nI q <<< (nI 1 &&& 31))) = 0 ↔ q &&& (q >>> 1) = 0) := by decide +kernel
def madP (vt ti fa st sk cs : Nat → Int32) (mn : Nat → Nat) (rc b : Nat) (m : Nat) (s : Int32 × Int32) : Int32 × Int32 := if s.2 < mbrI vt ti fa st sk (chM cs mn m) rc b (mn m) (crM (chM cs mn m) (mn m)) then (nI m, mbrI vt ti fa st sk (chM cs mn m) rc b (mn m) (crM (chM cs mn m) (mn m))) else s
def mdgC (vt fa st : Nat → Int32) (rc mc : Nat) (dy tch frs : Int32) (d : Int64) : Int64 := itr (fun q d => d * 31 + (mcI vt fa st rc mc dy tch frs q).toInt64) 9 d
def mdgB (wd vt ws st : Nat → Int32) (rc : Nat) (d : Int64) : Int64 := itr (fun p d => itr (fun q d => d * 31 + (bellT wd vt ws st rc (p / 6) (p % 6) q).toInt64) 3 d) 18 d
def mdgM (cs : Nat → Int32) (mn : Nat → Nat) (mc : Nat) (d : Int64) : Int64 := itr (fun m d => itr (fun b d => d * 31 + (dofI (ddgI (chM cs mn m)) b (crM (chM cs mn m) (mn m) * mn m)).toInt64) 6 (itr (fun i d => d * 31 + (cs (12 * m + i)).toInt64) (mn m) (itr (fun q d => d * 31 + (mtI (chM cs mn m) (mn m) q).toInt64) 6 d))) mc d
