/-! pure: a touch rung, ringer by ringer -/
abbrev P3 : Type := Int32 × Int32 × Int32
def ptS (s2 : Int32) (z : P3) : P3 := if nI 2 * s2 < tiredV z.1 then (tiredV z.1, z.2.1 + nI 1, z.2.2 + nI 1) else (tiredV z.1, z.2.1, z.2.2)
def atR (s : TR) (r : Nat) : P3 := (s.1 r, s.2.1 r, s.2.2 r)
theorem tire_at {sk : Nat → Int32} {k r : Nat} {s : TR} : atR (tireS sk k s) r = if r = k then ptS (sk k) (atR s k) else atR s r := by
  unfold tireS
  by_cases e : r = k
  · subst e
    rw [if_pos rfl]
    unfold ptS atR
    by_cases h : nI 2 * sk r < tiredV (s.1 r)
    · rw [if_pos h, if_pos h]
      simp only [pk_us]
    · rw [if_neg h, if_neg h]
      simp only [pk_us]
  · rw [if_neg e]
    unfold atR
    split
    · simp only [pk_un e]
    · simp only [pk_un e]
theorem td_at {st sk mv ma : Nat → Int32} {b : Nat} {s : TR} : ∀ k r, atR (itr (tdP st sk b mv ma) k s) r = if r < k ∧ bandI (st r) = nI b ∧ dodI mv ma (bellN (st r)) then ptS (sk r) (atR s r) else atR s r := by
  intro k
  induction k with
  | zero => intro r; rw [if_neg (fun q => by omega)]; rfl
  | succ k ih =>
    intro r
    show atR (tdP st sk b mv ma k (itr (tdP st sk b mv ma) k s)) r = _
    unfold tdP
    by_cases hq : bandI (st k) = nI b ∧ dodI mv ma (bellN (st k))
    · rw [if_pos hq, tire_at]
      by_cases e : r = k
      · subst e
        have h1 := ih r
        rw [if_neg (fun q => by omega)] at h1
        rw [if_pos rfl, if_pos ⟨by omega, hq⟩]
        exact congrArg _ h1
      · rw [if_neg e]
        have h1 := ih r
        refine h1.trans ?_
        by_cases h : r < k ∧ bandI (st r) = nI b ∧ dodI mv ma (bellN (st r))
        · rw [if_pos h, if_pos ⟨by omega, h.2⟩]
        · rw [if_neg h, if_neg (fun q => h ⟨by omega, q.2⟩)]
    · rw [if_neg hq]
      refine (ih r).trans ?_
      by_cases h : r < k ∧ bandI (st r) = nI b ∧ dodI mv ma (bellN (st r))
      · rw [if_pos h, if_pos ⟨by omega, h.2⟩]
      · rw [if_neg h, if_neg (fun q => h ⟨by
          by_cases e : r = k
          · subst e; exact absurd q.2 hq
          · have := q.1; omega, q.2⟩)]
/-- the touch's changes one by one -/
def rq (st sk c : Nat → Int32) (rc b : Nat) (s : TT × TR) (j : Nat) : TT × TR := itr (fun q s => rtS st sk rc b (c q) s) j s
theorem ring_flat {st sk ti fa ch ma : Nat → Int32} {rc b m L : Nat} : ringI st sk ti fa ch ma rc b m L = rq st sk (fun q => ch (q % m)) rc b (tbegin ma, ti, fa, fun _ => nI 0) (L * m) := itr_flat (F := fun i s => rtS st sk rc b (ch i) s) L
theorem rq_1 {st sk c ma : Nat → Int32} {rc b : Nat} {x : TR} : ∀ j, (rq st sk c rc b (tbegin ma, x) j).1 = tq c ma j := by
  intro j
  induction j with
  | zero => rfl
  | succ j ih =>
    show tstep (c j) (rq st sk c rc b (tbegin ma, x) j).1 = tstep (c j) (tq c ma j)
    rw [ih]
abbrev DOD (c ma : Nat → Int32) (k bl : Nat) : Prop := dodI (tq c ma (k + 1)).2.1 (tq c ma (k + 1)).2.2.1 bl
theorem rq_2 {st sk c ma : Nat → Int32} {rc b : Nat} {x : TR} {r : Nat} (hr : r < rc) (hb : bandI (st r) = nI b) : ∀ j, atR (rq st sk c rc b (tbegin ma, x) j).2 r = itr (fun k z => if DOD c ma k (bellN (st r)) then ptS (sk r) z else z) j (atR x r) := by
  intro j
  induction j with
  | zero => rfl
  | succ j ih =>
    show atR (tdI st sk rc b (tstep (c j) (rq st sk c rc b (tbegin ma, x) j).1).2.1 (tstep (c j) (rq st sk c rc b (tbegin ma, x) j).1).2.2.1 (rq st sk c rc b (tbegin ma, x) j).2) r = (if DOD c ma j (bellN (st r)) then ptS (sk r) (itr _ j (atR x r)) else itr _ j (atR x r))
    rw [rq_1, ← ih]
    refine (td_at rc r).trans ?_
    by_cases h : DOD c ma j (bellN (st r))
    · rw [if_pos h, if_pos ⟨hr, hb, h⟩]
    · rw [if_neg h, if_neg (fun q => h q.2.2)]
theorem rq_3 {st sk c ma : Nat → Int32} {rc b : Nat} {x : TR} {r : Nat} (hn : ¬ (r < rc ∧ bandI (st r) = nI b)) : ∀ j, atR (rq st sk c rc b (tbegin ma, x) j).2 r = atR x r := by
  intro j
  induction j with
  | zero => rfl
  | succ j ih =>
    refine Eq.trans ?_ ih
    refine (td_at rc r).trans ?_
    rw [if_neg (fun q => hn ⟨q.1, q.2.1⟩)]
    rfl
/-- the model's own walk over a ringer -/
def wrS (c ma : Nat → Int32) (s2 : Int32) (bl : Nat) (k : Nat) (z : Int32 × Int32) : Int32 × Int32 := if DOD c ma k bl then (tiredV z.1, if nI 2 * s2 < tiredV z.1 then z.2 + nI 1 else z.2 + nI 0) else z
theorem tk_at {c ma sk a : Nat → Int32} {bl r : Nat} (hc : ∀ i, vchg (c i)) (hbl : bl < 6) {o : Int32} : ∀ N, itr (tkP (ddgI c) sk bl r) N (a, o) = (upd a r (itr (wrS c ma (sk r) bl) N (a r, o)).1, (itr (wrS c ma (sk r) bl) N (a r, o)).2) := by
  intro N
  induction N with
  | zero =>
    refine Prod.ext ?_ rfl
    funext x
    show a x = upd a r (a r) x
    by_cases e : x = r
    · subst e; rw [pk_us]
    · rw [pk_un e]
  | succ N ih =>
    show tkP (ddgI c) sk bl r N (itr (tkP (ddgI c) sk bl r) N (a, o)) = _
    rw [ih]
    have hbit := ddg_bit (ma := ma) hc N hbl
    have e : itr (wrS c ma (sk r) bl) (N + 1) (a r, o) = wrS c ma (sk r) bl N (itr (wrS c ma (sk r) bl) N (a r, o)) := rfl
    rw [e]
    generalize itr (wrS c ma (sk r) bl) N (a r, o) = w
    unfold tkP wrS
    rw [hbit]
    by_cases h : DOD c ma N bl
    · rw [if_pos h, if_neg (by decide), if_pos h]
      simp only [pk_us]
      refine Prod.ext ?_ rfl
      funext x
      show upd (upd a r w.1) r (tiredV w.1) x = upd a r (tiredV w.1) x
      by_cases e : x = r
      · subst e; rw [pk_us, pk_us]
      · rw [pk_un e, pk_un e, pk_un e]
    · rw [if_neg h, if_pos (by decide), if_neg h]
theorem pt_wr {c ma : Nat → Int32} {s2 t f : Int32} {bl : Nat} : ∀ N, itr (fun k z => if DOD c ma k bl then ptS s2 z else z) N ((t, f, nI 0) : P3) = ((itr (wrS c ma s2 bl) N (t, nI 0)).1, f + (itr (wrS c ma s2 bl) N (t, nI 0)).2, (itr (wrS c ma s2 bl) N (t, nI 0)).2) := by
  intro N
  induction N with
  | zero => show (t, f, nI 0) = (t, f + nI 0, nI 0); rw [gn_a0]
  | succ N ih =>
    show (if DOD c ma N bl then ptS s2 (itr _ N ((t, f, nI 0) : P3)) else itr _ N ((t, f, nI 0) : P3)) = _
    rw [ih]
    have e : itr (wrS c ma s2 bl) (N + 1) (t, nI 0) = wrS c ma s2 bl N (itr (wrS c ma s2 bl) N (t, nI 0)) := rfl
    rw [e]
    generalize itr (wrS c ma s2 bl) N (t, nI 0) = w
    unfold wrS
    by_cases h : DOD c ma N bl
    · rw [if_pos h, if_pos h]
      unfold ptS
      by_cases q : nI 2 * s2 < tiredV w.1
      · rw [if_pos q, if_pos q, Int32.add_assoc]
      · rw [if_neg q, if_neg q, gn_a0]
    · rw [if_neg h, if_neg h]
theorem vt_at {st tf : Nat → Int32} {b : Nat} {mo : Int32} {v : Nat → Int32} : ∀ k r, itr (vtP st tf b mo) k v r = if r < k ∧ bandI (st r) = nI b then clampI (v r + (mo - tf r)) else v r := by
  intro k
  induction k with
  | zero => intro r; rw [if_neg (fun q => by omega)]; rfl
  | succ k ih =>
    intro r
    show vtP st tf b mo k (itr (vtP st tf b mo) k v) r = _
    unfold vtP
    by_cases hk : bandI (st k) = nI b
    · rw [if_pos hk]
      by_cases e : r = k
      · subst e
        have h1 := ih r
        rw [if_neg (fun q => by omega)] at h1
        rw [pk_us, if_pos ⟨by omega, hk⟩]
        exact congrArg (fun z => clampI (z + (mo - tf r))) h1
      · rw [pk_un e]
        refine (ih r).trans ?_
        by_cases h : r < k ∧ bandI (st r) = nI b
        · rw [if_pos h, if_pos ⟨by omega, h.2⟩]
        · rw [if_neg h, if_neg (fun q => h ⟨by omega, q.2⟩)]
    · rw [if_neg hk]
      refine (ih r).trans ?_
      by_cases h : r < k ∧ bandI (st r) = nI b
      · rw [if_pos h, if_pos ⟨by omega, h.2⟩]
      · rw [if_neg h, if_neg (fun q => h ⟨by
          by_cases e : r = k
          · subst e; exact absurd q.2 hk
          · have := q.1; omega, q.2⟩)]
theorem mr_at {st sk c ma : Nat → Int32} {b : Nat} {mo : Int32} {N : Nat} (hc : ∀ i, vchg (c i)) {s : TR} (k0 : Nat) (hso : ∀ r, r < k0 → bandI (st r) = nI b → bellN (st r) < 6) : ∀ k, k ≤ k0 → ∀ r, atR (itr (mrP st sk (ddgI c) b mo N) k s) r = if r < k ∧ bandI (st r) = nI b then ((itr (wrS c ma (sk r) (bellN (st r))) N (s.1 r, nI 0)).1, s.2.1 r + (itr (wrS c ma (sk r) (bellN (st r))) N (s.1 r, nI 0)).2, clampI (s.2.2 r + mo - (itr (wrS c ma (sk r) (bellN (st r))) N (s.1 r, nI 0)).2)) else atR s r := by
  intro k
  induction k with
  | zero => intro _ r; rw [if_neg (fun q => by omega)]; rfl
  | succ k ih =>
    intro hk0 r
    have ih := ih (by omega)
    show atR (mrP st sk (ddgI c) b mo N k (itr (mrP st sk (ddgI c) b mo N) k s)) r = _
    obtain ⟨S, hS⟩ : ∃ S, itr (mrP st sk (ddgI c) b mo N) k s = S := ⟨_, rfl⟩
    rw [hS] at ih ⊢
    unfold mrP
    by_cases hk : bandI (st k) = nI b
    · rw [if_pos hk]
      have hz := tk_at (sk := sk) (r := k) (a := S.1) (o := nI 0) (ma := ma) hc (hso k (by omega) hk) N
      rw [hz]
      by_cases e : r = k
      · subst e
        have h1 := ih r
        rw [if_neg (fun q => by omega)] at h1
        have g1 : S.1 r = s.1 r := congrArg Prod.fst h1
        have g2 : S.2.1 r = s.2.1 r := congrArg (fun z : P3 => z.2.1) h1
        have g3 : S.2.2 r = s.2.2 r := congrArg (fun z : P3 => z.2.2) h1
        rw [if_pos ⟨by omega, hk⟩]
        unfold atR
        simp only [pk_us]
        rw [g1, g2, g3]
      · have h1 := ih r
        have h2 : (if r < k ∧ bandI (st r) = nI b then ((itr (wrS c ma (sk r) (bellN (st r))) N (s.1 r, nI 0)).1, s.2.1 r + (itr (wrS c ma (sk r) (bellN (st r))) N (s.1 r, nI 0)).2, clampI (s.2.2 r + mo - (itr (wrS c ma (sk r) (bellN (st r))) N (s.1 r, nI 0)).2)) else atR s r) = if r < k + 1 ∧ bandI (st r) = nI b then ((itr (wrS c ma (sk r) (bellN (st r))) N (s.1 r, nI 0)).1, s.2.1 r + (itr (wrS c ma (sk r) (bellN (st r))) N (s.1 r, nI 0)).2, clampI (s.2.2 r + mo - (itr (wrS c ma (sk r) (bellN (st r))) N (s.1 r, nI 0)).2)) else atR s r := by
          by_cases h : r < k ∧ bandI (st r) = nI b
          · rw [if_pos h, if_pos ⟨by omega, h.2⟩]
          · rw [if_neg h, if_neg (fun q => h ⟨by omega, q.2⟩)]
        rw [← h2, ← h1]
        unfold atR
        simp only [pk_un e]
    · rw [if_neg hk]
      refine (ih r).trans ?_
      by_cases h : r < k ∧ bandI (st r) = nI b
      · rw [if_pos h, if_pos ⟨by omega, h.2⟩]
      · rw [if_neg h, if_neg (fun q => h ⟨by
          by_cases e : r = k
          · subst e; exact absurd q.2 hk
          · have := q.1; omega, q.2⟩)]
theorem i32_as (a b c : Int32) : a + (b - c) = a + b - c := by
  rw [Int32.sub_eq_add_neg, Int32.sub_eq_add_neg, Int32.add_assoc]
theorem more_eq {c ma : Nat → Int32} {N L : Nat} (hc : ∀ i, vchg (c i)) : moreI (tq c ma N).1 (untI (codI c) N) L = mmI c N L := by
  unfold moreI mmI
  have h := (home_iff (rel_all ma hc N).1).trans codI_rnd.symm
  by_cases q : untI (codI c) N = 0 ∧ codI c N = nI 1865
  · rw [if_pos q, if_pos ⟨q.1, h.mpr q.2⟩]
  · rw [if_neg q, if_neg (fun z => q ⟨z.1, h.mp z.2⟩)]
/-- a touch, rung by the class and by the model -/
theorem ring_eq {st sk vt ti fa ch ma : Nat → Int32} {rc b m L : Nat} (hc : ∀ i, vchg (ch (i % m))) (hN : L * m ≤ 200) (hb3 : b < 3) (hso : ∀ r, r < rc → seatOK (st r)) :
    ringF (ringI st sk ti fa ch ma rc b m L) = untI (codI fun q => ch (q % m)) (L * m) ∧
    (ringI st sk ti fa ch ma rc b m L).2.1 = (mrI st sk (ddgI fun q => ch (q % m)) rc b (mmI (fun q => ch (q % m)) (L * m) L) (L * m) (ti, fa, vt)).1 ∧
    (ringI st sk ti fa ch ma rc b m L).2.2.1 = (mrI st sk (ddgI fun q => ch (q % m)) rc b (mmI (fun q => ch (q % m)) (L * m) L) (L * m) (ti, fa, vt)).2.1 ∧
    vtI st (ringI st sk ti fa ch ma rc b m L).2.2.2 rc b (moreI (ringI st sk ti fa ch ma rc b m L).1.1 (ringF (ringI st sk ti fa ch ma rc b m L)) L) vt = (mrI st sk (ddgI fun q => ch (q % m)) rc b (mmI (fun q => ch (q % m)) (L * m) L) (L * m) (ti, fa, vt)).2.2 := by
  have hF : ringF (ringI st sk ti fa ch ma rc b m L) = untI (codI fun q => ch (q % m)) (L * m) := by
    unfold ringF
    rw [ring_flat, rq_1]
    exact un_eq hc hN
  have hM : moreI (ringI st sk ti fa ch ma rc b m L).1.1 (ringF (ringI st sk ti fa ch ma rc b m L)) L = mmI (fun q => ch (q % m)) (L * m) L := by
    rw [hF, ring_flat, rq_1]
    exact more_eq hc
  have hbl : ∀ r, r < rc → bandI (st r) = nI b → bellN (st r) < 6 := fun r hr hb => (bell_ok (hso r hr) hb3 hb).2
  have hm := fun r => mr_at (sk := sk) (ma := ma) (mo := mmI (fun q => ch (q % m)) (L * m) L) (N := L * m) (s := (ti, fa, vt)) hc rc hbl rc (Nat.le_refl rc) r
  have hp : ∀ r, atR (ringI st sk ti fa ch ma rc b m L).2 r = if r < rc ∧ bandI (st r) = nI b then ((itr (wrS (fun q => ch (q % m)) ma (sk r) (bellN (st r))) (L * m) (ti r, nI 0)).1, fa r + (itr (wrS (fun q => ch (q % m)) ma (sk r) (bellN (st r))) (L * m) (ti r, nI 0)).2, (itr (wrS (fun q => ch (q % m)) ma (sk r) (bellN (st r))) (L * m) (ti r, nI 0)).2) else (ti r, fa r, nI 0) := fun r => by
    rw [ring_flat]
    by_cases h : r < rc ∧ bandI (st r) = nI b
    · rw [if_pos h, rq_2 h.1 h.2]
      exact pt_wr (L * m)
    · rw [if_neg h, rq_3 h]
      rfl
  refine ⟨hF, ?_, ?_, ?_⟩
  · funext r
    have h1 := congrArg Prod.fst (hp r)
    have h2 := congrArg Prod.fst (hm r)
    refine Eq.trans (b := _) h1 (Eq.trans ?_ h2.symm)
    by_cases h : r < rc ∧ bandI (st r) = nI b
    · rw [if_pos h, if_pos h]
    · rw [if_neg h, if_neg h]; rfl
  · funext r
    have h1 := congrArg (fun z : P3 => z.2.1) (hp r)
    have h2 := congrArg (fun z : P3 => z.2.1) (hm r)
    refine Eq.trans (b := _) h1 (Eq.trans ?_ h2.symm)
    by_cases h : r < rc ∧ bandI (st r) = nI b
    · rw [if_pos h, if_pos h]
    · rw [if_neg h, if_neg h]; rfl
  · funext r
    rw [hM]
    have h1 := congrArg (fun z : P3 => z.2.2) (hp r)
    have h2 := congrArg (fun z : P3 => z.2.2) (hm r)
    refine Eq.trans (vt_at rc r) (Eq.trans ?_ h2.symm)
    by_cases h : r < rc ∧ bandI (st r) = nI b
    · have h3 : (ringI st sk ti fa ch ma rc b m L).2.2.2 r = (itr (wrS (fun q => ch (q % m)) ma (sk r) (bellN (st r))) (L * m) (ti r, nI 0)).2 := by
        refine Eq.trans (b := _) h1 ?_
        rw [if_pos h]
      rw [if_pos h, if_pos h, h3, i32_as]
    · rw [if_neg h, if_neg h]; rfl
