/-! GW: a walk over a pure heap: references are numbers of cells (0, 1 ..), their addresses a hidden map -/
abbrev gw_K : Type := va_G × ClassId × ClassId × ClassId
abbrev gw_E : Type := vp_A ⊕ (Nat × List Value)
abbrev gw_H : Type := Nat → gw_E
abbrev aI (n : Nat) (f : Nat → Int32) : gw_E := .inl (n, .inl f)
abbrev aJ (n : Nat) (f : Nat → Int64) : gw_E := .inl (n, .inr (.inl f))
abbrev aQ (n : Nat) (f : Nat → Option Nat) : gw_E := .inl (n, .inr (.inr (.inr (.inr f))))
abbrev oB (ci : Nat) (fs : List Value) : gw_E := .inr (ci, fs)
abbrev gw_tys (K : gw_K) : List (ClassId × FieldType) := [(K.2.1, .int), (K.2.2.1, .long), (K.2.2.2, .object RX0)]
def gw_V (ad : Nat → Nat) (v : Value) : Value := match v with
  | .ref k => .ref (ad k)
  | w => w
def gw_ok (n : Nat) (v : Value) : Prop := ∀ k, v = .ref k → k < n
def gw_tr (K : gw_K) (ad : Nat → Nat) (e : gw_E) : va_E := match e with
  | .inl (n, .inl f) => .inl (K.2.1, n, .inl f)
  | .inl (n, .inr (.inl f)) => .inl (K.2.2.1, n, .inr (.inl f))
  | .inl (n, .inr (.inr (.inl f))) => .inl (K.2.1, n, .inr (.inr (.inl f)))
  | .inl (n, .inr (.inr (.inr (.inl f)))) => .inl (K.2.1, n, .inr (.inr (.inr (.inl f))))
  | .inl (n, .inr (.inr (.inr (.inr f)))) => .inl (K.2.2.2, n, .inr (.inr (.inr (.inr (fun j => (f j).map ad)))))
  | .inr (ci, fs) => .inr (ci, fs.map (gw_V ad))
def gw_oke (n : Nat) (e : gw_E) : Prop := match e with
  | .inl (_, .inr (.inr (.inr (.inr f)))) => ∀ j k, f j = some k → k < n
  | .inl _ => True
  | .inr (_, fs) => ∀ v ∈ fs, gw_ok n v
def hs (h : gw_H) (k : Nat) (e : gw_E) : gw_H := fun j => if j = k then e else h j
theorem hs_eq (h : gw_H) (k : Nat) (e : gw_E) : hs h k e k = e := by simp [hs]
theorem hs_ne {h : gw_H} {k j : Nat} {e : gw_E} (hj : j ≠ k) : hs h k e j = h j := by simp [hs, hj]
def gw_ws (K : gw_K) (ad : Nat → Nat) (n : Nat) (h : gw_H) : va_W := (List.range n).map fun k => (ad k, gw_tr K ad (h k))
theorem gw_ws_at {K : gw_K} {ad : Nat → Nat} {n k : Nat} {h : gw_H} (hk : k < n) : (gw_ws K ad n h)[k]? = some (ad k, gw_tr K ad (h k)) := by
  simp [gw_ws, hk]
theorem gw_ws_lt {K : gw_K} {ad : Nat → Nat} {n k : Nat} {h : gw_H} {q : Nat × va_E} (hq : (gw_ws K ad n h)[k]? = some q) : k < n ∧ q = (ad k, gw_tr K ad (h k)) := by
  have hk : k < n := by
    have := (List.getElem?_eq_some_iff.mp hq).1
    simpa [gw_ws] using this
  rw [gw_ws_at hk] at hq
  exact ⟨hk, (Option.some.inj hq).symm⟩
theorem gw_ws_set {K : gw_K} {ad : Nat → Nat} {n k : Nat} {h : gw_H} (hk : k < n) (e : gw_E) : (gw_ws K ad n h).set k (ad k, gw_tr K ad e) = gw_ws K ad n (hs h k e) := by
  apply List.ext_getElem?
  intro j
  rw [List.getElem?_set]
  by_cases hj : k = j
  · subst hj
    rw [if_pos rfl, if_pos (by simpa [gw_ws] using hk), gw_ws_at hk, hs_eq]
  · rw [if_neg hj]
    by_cases hl : j < n
    · rw [gw_ws_at hl, gw_ws_at hl, hs_ne (fun q => hj q.symm)]
    · rw [List.getElem?_eq_none (by simp [gw_ws]; omega), List.getElem?_eq_none (by simp [gw_ws]; omega)]
theorem gw_V_ad {ad ad' : Nat → Nat} {n : Nat} (ha : ∀ k, k < n → ad' k = ad k) {v : Value} (hv : gw_ok n v) : gw_V ad' v = gw_V ad v := by
  cases v with
  | ref k => exact congrArg Value.ref (ha k (hv k rfl))
  | _ => rfl
theorem gw_map_ad {ad ad' : Nat → Nat} {n : Nat} (ha : ∀ k, k < n → ad' k = ad k) {S : List Value} (hv : ∀ v ∈ S, gw_ok n v) : S.map (gw_V ad') = S.map (gw_V ad) :=
  List.map_congr_left fun v h => gw_V_ad ha (hv v h)
theorem gw_tr_ad {K : gw_K} {ad ad' : Nat → Nat} {n : Nat} (ha : ∀ k, k < n → ad' k = ad k) {e : gw_E} (he : gw_oke n e) : gw_tr K ad' e = gw_tr K ad e := by
  obtain ⟨len, f | f | f | f | f⟩ | ⟨ci, fs⟩ := e
  · rfl
  · rfl
  · rfl
  · rfl
  · have e1 : (fun j => (f j).map ad') = (fun j => (f j).map ad) := by
      funext j
      cases hf : f j with
      | none => rfl
      | some k => exact congrArg some (ha k (he j k hf))
    show (Sum.inl (K.2.2.2, len, Sum.inr (Sum.inr (Sum.inr (Sum.inr (fun j => (f j).map ad'))))) : va_E) = _
    rw [e1]; rfl
  · show (Sum.inr (ci, fs.map (gw_V ad')) : va_E) = _
    rw [gw_map_ad ha he]; rfl
theorem gw_ws_ad {K : gw_K} {ad ad' : Nat → Nat} {n : Nat} {h : gw_H} (ha : ∀ k, k < n → ad' k = ad k) (he : ∀ k, k < n → gw_oke n (h k)) : gw_ws K ad' n h = gw_ws K ad n h := by
  unfold gw_ws
  refine List.map_congr_left fun k hk => ?_
  have hk := List.mem_range.mp hk
  rw [ha k hk, gw_tr_ad ha (he k hk)]
theorem gw_ws_push {K : gw_K} {ad ad' : Nat → Nat} {n : Nat} {h : gw_H} {e : gw_E} (ha : ∀ k, k < n → ad' k = ad k) (he : ∀ k, k < n → gw_oke n (h k)) : gw_ws K ad n h ++ [(ad' n, gw_tr K ad' e)] = gw_ws K ad' (n + 1) (hs h n e) := by
  rw [← gw_ws_ad ha he]
  unfold gw_ws
  rw [List.range_succ, List.map_append]
  have e1 : List.map (fun k => (ad' k, gw_tr K ad' (h k))) (List.range n) = List.map (fun k => (ad' k, gw_tr K ad' (hs h n e k))) (List.range n) := by
    refine List.map_congr_left fun k hk => ?_
    have hk := List.mem_range.mp hk
    rw [hs_ne (by omega)]
  rw [e1]
  simp [hs_eq]
theorem gw_ok_up {n n' : Nat} (hn : n ≤ n') {v : Value} (h : gw_ok n v) : gw_ok n' v := fun k e => Nat.lt_of_lt_of_le (h k e) hn
theorem gw_oks_up {n n' : Nat} (hn : n ≤ n') {S : List Value} (h : ∀ v ∈ S, gw_ok n v) : ∀ v ∈ S, gw_ok n' v := fun v hv => gw_ok_up hn (h v hv)
theorem gw_oke_up {n n' : Nat} (hn : n ≤ n') {e : gw_E} (h : gw_oke n e) : gw_oke n' e := by
  obtain ⟨len, f | f | f | f | f⟩ | ⟨ci, fs⟩ := e
  · trivial
  · trivial
  · trivial
  · trivial
  · exact fun j k e => Nat.lt_of_lt_of_le (h j k e) hn
  · exact gw_oks_up hn h
theorem gw_int (n : Nat) (x : Int32) : gw_ok n (.int x) := fun _ h => nomatch h
theorem gw_long (n : Nat) (x : Int64) : gw_ok n (.long x) := fun _ h => nomatch h
theorem gw_dbl (n : Nat) (x : UInt64) : gw_ok n (.double x) := fun _ h => nomatch h
theorem gw_null (n : Nat) : gw_ok n .null := fun _ h => nomatch h
theorem gw_ref {n k : Nat} (h : k < n) : gw_ok n (.ref k) := fun j e => by cases e; exact h
theorem gw_tl {n : Nat} {v : Value} {S : List Value} (h : ∀ w ∈ v :: S, gw_ok n w) : ∀ w ∈ S, gw_ok n w := fun w hw => h w (List.mem_cons_of_mem _ hw)
theorem gw_hd {n : Nat} {v : Value} {S : List Value} (h : ∀ w ∈ v :: S, gw_ok n w) : gw_ok n v := h v List.mem_cons_self
theorem gw_cs {n : Nat} {v : Value} {S : List Value} (h1 : gw_ok n v) (h : ∀ w ∈ S, gw_ok n w) : ∀ w ∈ v :: S, gw_ok n w := List.forall_mem_cons.mpr ⟨h1, h⟩
def gw_R (K : gw_K) (ad : Nat → Nat) (n : Nat) (h : gw_H) (A : Nat → Prop) (H : Heap) : Prop := va_P K.1 vwCl (gw_ws K ad n h) H ∧ va_D A (gw_ws K ad n h) ∧ ∀ k, k < n → gw_oke n (h k)
def gw_L (ad : Nat → Nat) (n nL : Nat) (ls : Array Slot) (L : List (Option Value)) : Prop := ls.size = nL ∧ lv_wf ls ∧ L.length = nL ∧ ∀ (i : Nat) (v : Value), L[i]? = some (some v) → ls[i]? = some (.val (gw_V ad v)) ∧ gw_ok n v
abbrev gw_X : Type := Program × Launch × Env × Room × State × MethodId × Array Value × List Frame × Method × Code × (Nat → Prop) × (State → Prop) × gw_K × (Nat → Nat) × Nat
def GW (X : gw_X) (pc : Nat) (L : List (Option Value)) (S : List Value) (h : gw_H) (n kc ks : Nat) : Prop := match X with
  | (p, l, e, R, s, m, args, below, meth, c, A, Q, K, ad0, n0) =>
    ∀ (ad : Nat → Nat) (H : Heap) (locs : List Loc) (ls : Array Slot), gw_R K ad n h A H → va_S A s.heap H locs → (∀ k, k < n0 → ad k = ad0 k) → n0 ≤ n → gw_L ad n c.maxLocals ls L → (∀ v ∈ S, gw_ok n v) →
      W p l e R s m args below meth c H locs kc ks Q (F0 m pc ls (S.map (gw_V ad)))
/-- a frame over which an exception of class E is thrown -/
def GX (X : gw_X) (pc : Nat) (L : List (Option Value)) (E : String) (h : gw_H) (n kc ks : Nat) : Prop := match X with
  | (p, l, e, R, s, m, args, below, meth, c, A, Q, K, ad0, n0) =>
    ∀ (ad : Nat → Nat) (H : Heap) (locs : List Loc) (ls : Array Slot) (q : Addr) (ce : Cell) (rest : List Value), gw_R K ad n h A H → va_S A s.heap H locs → (∀ k, k < n0 → ad k = ad0 k) → n0 ≤ n → gw_L ad n c.maxLocals ls L →
      H[q]? = some ce → ce.vm = .none → s.vm.findClass E = some ce.cls → vx_W p l e R s m args below meth c H locs kc ks Q (F0 m pc ls rest) q
/-- words that the tables alone don't carry through a call: kept by laws of their own -/
def gw_sp (w : Cond) : Bool := match w with
  | .fieldLinkNest .. => true
  | .methodLinkNest .. => true
  | .castable .. => true
  | .declares .. => true
  | _ => false
def gw_strs : List (Nat × String) := [(239, "there is no such number"), (242, "outside of what is allowed"), (47, "there are 20 ringers"), (84, "the bell has a ringer"), (90, "the ringer rings a bell"), (95, "the ringer rings no bell"), (113, "there are 5 methods"), (121, "a place is in two pairs"), (127, "the method has 12 changes"), (139, "the method is empty"), (161, "the band cannot ring this method")]
def gw_ncs : List (String × String) := [("java/lang/IllegalArgumentException", "java/lang/IndexOutOfBoundsException"), ("java/lang/IllegalStateException", "java/lang/IndexOutOfBoundsException"), ("java/lang/IllegalStateException", "java/lang/IllegalArgumentException")]
def gw_S (U : State) : Prop := (∀ w ∈ lw_tbl, gw_sp w = true → va_Nw w U) ∧ va_AO RX0 U ∧ (∀ q ∈ gw_strs, ∃ a, vk_R RX3 q.1 q.2 a U) ∧ ∀ q ∈ gw_ncs, va_Nc q.1 q.2 U
theorem gw_S.warm {s U : State} (hW : s.WarmedH U.vm) (h : gw_S s) : gw_S U := by
  refine ⟨fun w hw hs => ?_, va_AO.moved hW.alike h.2.1, fun q hq => ?_, fun q hq => va_Nc.moved hW.alike (h.2.2.2 q hq)⟩
  · have h1 := h.1 w hw hs
    cases w <;> first | exact va_Nw.warmF hW h1 | exact va_Nw.warmM hW h1 | exact va_Nw.warmC hW h1 | exact va_Nw.warmD hW h1 | (exact absurd hs (by simp [gw_sp]))
  · obtain ⟨a, ha⟩ := h.2.2.1 q hq
    exact ⟨a, vk_R.warm hW ha⟩
theorem gw_sp_on {w : Cond} (h : gw_sp w = true) : w.onTables = true := by
  cases w <;> first | rfl | (exact absurd h (by simp [gw_sp]))
theorem gw_S.same {s U : State} (hv : s.vm = U.vm) (h : gw_S s) : gw_S U := by
  refine ⟨fun w hw hs => va_Nw.same (gw_sp_on hs) hv (h.1 w hw hs), va_AO.moved (hv ▸ Vm.Alike.refl s.vm) h.2.1, fun q hq => ?_, fun q hq => va_Nc.moved (hv ▸ Vm.Alike.refl s.vm) (h.2.2.2 q hq)⟩
  obtain ⟨a, ha⟩ := h.2.2.1 q hq
  exact ⟨a, vk_R.same hv.symm ha⟩
def gw_fr (ad : Nat → Nat) (n sz : Nat) : Nat → Prop := fun q => (∃ k, k < n ∧ ad k = q) ∨ sz ≤ q
abbrev gw_tN : String := Bundle.tN
def gw_Z (A : Nat → Prop) (U : State) (H : Heap) : Prop := vx_Zq Bundle.tN "UNASSIGNED_STACK" Bundle.steD A U H ∧ vx_Zq Bundle.tN "SUPPRESSED_SENTINEL" Bundle.listD A U H
theorem gw_Z.moved {A : Nat → Prop} {u U : State} {H : Heap} (hvm : u.vm.Alike U.vm) (h : gw_Z A u H) : gw_Z A U H := ⟨vx_Zq.moved hvm h.1, vx_Zq.moved hvm h.2⟩
theorem gw_Z.kept {A : Nat → Prop} {U : State} {H H1 : Heap} (h : gw_Z A U H) (hq : ∀ a : Nat, a < H.size → ¬ A a → H1[a]? = H[a]?) : gw_Z A U H1 := ⟨vx_Zq.kept h.1 hq, vx_Zq.kept h.2 hq⟩
theorem gw_Z.narrow {A B : Nat → Prop} {U : State} {H : Heap} (h : gw_Z A U H) (hAB : ∀ q, B q → A q) : gw_Z B U H := ⟨vx_Zq.narrow h.1 hAB, vx_Zq.narrow h.2 hAB⟩
/-- what is fixed in a frame: the launch, the array classes, the code, its class, its room -/
def FX (l0 : Launch) (K0 : gw_K) (X : gw_X) (cc : ByteArray) (own : String) (F Lo MC MS : Nat) : Prop := match X with
  | (p, l, e, R, s, m, args, below, meth, c, A, Q, K, ad0, n0) =>
    p.tables.exec = Jvm.exec ∧ c.code = cc ∧ s.vm.findClass own = some m.cls ∧ (∀ w ∈ lw_tbl, goodWord w = true → w.before args s = true) ∧ va_K K.1 vwCl (gw_tys K) s ∧ (∀ q, s.heap.size ≤ q → A q) ∧ gw_S s ∧ gw_Z A s s.heap ∧ l = l0 ∧ K = K0 ∧ R = { frames := F, cells := MC, slots := MS, locals := Lo } ∧ l0.stackTraces = false ∧ meth.locks = false
def gw_Q (K : gw_K) (ad0 : Nat → Nat) (n0 sz : Nat) (Post : Option Value → gw_H → Nat → Prop) : Array Value → State → Outcome → State → Prop := fun _ st o t =>
  (∃ (rv : Option Value) (h' : gw_H) (n' : Nat) (ad' : Nat → Nat), o = .returned (rv.map (gw_V ad')) ∧ Post rv h' n' ∧ (∀ k, k < n0 → ad' k = ad0 k) ∧ n0 ≤ n' ∧ gw_R K ad' n' h' (gw_fr ad0 n0 sz) t.heap ∧ ∀ v, rv = some v → gw_ok n' v) ∧ va_F (gw_fr ad0 n0 sz) st t
def gw_XC (K : gw_K) (ad0 : Nat → Nat) (n0 sz : Nat) (PX : String → gw_H → Nat → Prop) : String → State → State → Prop := fun E st t =>
  (∃ (h' : gw_H) (n' : Nat) (ad' : Nat → Nat), PX E h' n' ∧ (∀ k, k < n0 → ad' k = ad0 k) ∧ n0 ≤ n' ∧ gw_R K ad' n' h' (gw_fr ad0 n0 sz) t.heap) ∧ va_F (gw_fr ad0 n0 sz) st t
def gw_P (K : gw_K) (ad : Nat → Nat) (n : Nat) (As : List Value) (h : gw_H) (sz : Nat) : Array Value → State → Prop := fun a U =>
  a = (As.map (gw_V ad)).toArray ∧ U.heap.size = sz ∧ gw_R K ad n h (fun _ => True) U.heap ∧ (∀ v ∈ As, gw_ok n v) ∧ va_K K.1 vwCl (gw_tys K) U ∧ gw_S U ∧ gw_Z (gw_fr ad n sz) U U.heap
/-- a method: its name, code, locals, what it returns, frames, words of locals -/
abbrev gw_M : Type := MethodName × ByteArray × Nat × Option FieldType × Nat × Nat
def gw_w (M : gw_M) : List Cond := .code M.1 M.2.1 M.2.2.1 M.2.2.2.1 :: lw_tbl.filter goodWord
/-- a method's contract at these arguments and this heap of n cells: it ends, or throws; at most mc cells of ms slots are new -/
def Ctr (l : Launch) (K : gw_K) (M : gw_M) (As : List Value) (h : gw_H) (n mc ms : Nat) (Post : Option Value → gw_H → Nat → Prop) (PX : String → gw_H → Nat → Prop) : Prop :=
  ∀ (ad : Nat → Nat) (sz : Nat), vx_Met l M.1 (gw_w M) { frames := M.2.2.2.2.1, cells := mc, slots := ms, locals := M.2.2.2.2.2 } (gw_P K ad n As h sz) (gw_Q K ad n sz Post) (gw_XC K ad n sz PX) mc ms (gw_fr ad n sz)
/-- what a frame owes at its end -/
def RX (X : gw_X) (nm : String) (ret : Option FieldType) (Post : Option Value → gw_H → Nat → Prop) (PX : String → gw_H → Nat → Prop) : Prop := match X with
  | (p, l, e, R, s, m, args, below, meth, c, A, Q, K, ad0, n0) =>
    meth.name = nm ∧ meth.sig.returnType = ret ∧ A = gw_fr ad0 n0 s.heap.size ∧ Q = vx_MQ below (gw_Q K ad0 n0 s.heap.size Post) (gw_XC K ad0 n0 s.heap.size PX) args s R.cells R.slots (gw_fr ad0 n0 s.heap.size)
def gw_sl (vs : List Value) : List (Option Value) := vs.flatMap fun v => if v.category = 2 then [some v, none] else [some v]
def gw_L0 (vs : List Value) (n : Nat) : List (Option Value) := gw_sl vs ++ List.replicate (n - (gw_sl vs).length) none
theorem gw_cat (ad : Nat → Nat) (v : Value) : (gw_V ad v).category = v.category := by cases v <;> rfl
theorem gw_lens (ad : Nat → Nat) (vs : List Value) : (lg_sl (vs.map (gw_V ad))).length = (gw_sl vs).length := by
  induction vs with
  | nil => rfl
  | cons v t ih =>
    show (lg_sl ((gw_V ad v) :: t.map (gw_V ad))).length = _
    unfold lg_sl gw_sl at *
    rw [List.flatMap_cons, List.flatMap_cons, List.length_append, List.length_append, ih, gw_cat]
    split <;> rfl
theorem gw_args (ad : Nat → Nat) (vs : List Value) : ∀ (b i : Nat) (v : Value), (gw_sl vs)[i]? = some (some v) → (b + i, gw_V ad v) ∈ lv_args b (vs.map (gw_V ad)) := by
  induction vs with
  | nil => intro b i v h; simp [gw_sl] at h
  | cons w t ih =>
    intro b i v h
    have hc := gw_cat ad w
    show (b + i, gw_V ad v) ∈ lv_args b (gw_V ad w :: t.map (gw_V ad))
    unfold gw_sl at h
    rw [List.flatMap_cons] at h
    unfold lv_args
    rw [hc]
    by_cases h2 : w.category = 2
    · rw [if_pos h2] at h ⊢
      match i, h with
      | 0, h => simp at h; subst h; exact List.mem_cons_self
      | 1, h => simp at h
      | i + 2, h =>
        have h' : (gw_sl t)[i]? = some (some v) := by simpa [gw_sl] using h
        have := ih (b + 2) i v h'
        rw [show b + (i + 2) = b + 2 + i by omega]
        exact List.mem_cons_of_mem _ this
    · rw [if_neg h2] at h ⊢
      match i, h with
      | 0, h => simp at h; subst h; exact List.mem_cons_self
      | i + 1, h =>
        have h' : (gw_sl t)[i]? = some (some v) := by simpa [gw_sl] using h
        have := ih (b + 1) i v h'
        rw [show b + (i + 1) = b + 1 + i by omega]
        exact List.mem_cons_of_mem _ this
theorem gw_entry {ad : Nat → Nat} {n nL : Nat} {vs : List Value} (h : (gw_sl vs).length ≤ nL) (hok : ∀ v ∈ vs, gw_ok n v) :
    gw_L ad n nL ((lg_sl (vs.map (gw_V ad)) ++ List.replicate (nL - (lg_sl (vs.map (gw_V ad))).length) Slot.unset).toArray) (gw_L0 vs nL) := by
  have hl := lv_entry (vs.map (gw_V ad)) (n := nL) (by rw [gw_lens]; exact h)
  refine ⟨hl.1, hl.2.1, by simp [gw_L0]; omega, fun i v hi => ?_⟩
  have hi' : (gw_sl vs)[i]? = some (some v) := by
    unfold gw_L0 at hi
    rcases Nat.lt_or_ge i (gw_sl vs).length with hlt | hge
    · rwa [List.getElem?_append_left hlt] at hi
    · rw [List.getElem?_append_right hge] at hi
      have := List.mem_of_getElem? hi
      have := List.eq_of_mem_replicate this
      cases this
  have h1 := gw_args ad vs 0 i v hi'
  rw [Nat.zero_add] at h1
  refine ⟨hl.2.2 _ h1, hok v ?_⟩
  have h2 := List.mem_of_getElem? hi'
  unfold gw_sl at h2
  obtain ⟨w, hw, hm⟩ := List.mem_flatMap.mp h2
  split at hm
  · simp at hm; subst hm; exact hw
  · simp at hm; subst hm; exact hw
theorem gw_R.weaken {K : gw_K} {ad : Nat → Nat} {n : Nat} {h : gw_H} {A B : Nat → Prop} {H : Heap} (hR : gw_R K ad n h A H) (hAB : ∀ k, k < n → A (ad k) → B (ad k)) : gw_R K ad n h B H := by
  refine ⟨hR.1, ⟨hR.2.1.1, fun k q hq => ?_⟩, hR.2.2⟩
  obtain ⟨hk, rfl⟩ := gw_ws_lt hq
  exact hAB k hk (hR.2.1.2 k _ hq)
def EX (X : gw_X) (n : Nat) (h : gw_H) : Prop := (∀ x ∈ X.2.2.2.2.2.2.2.2.2.1.exceptionTable.toList, False) ∧ X.2.2.2.2.2.2.2.2.2.2.2.2.2.2 = n ∧ ∀ k, k < n → gw_oke n (h k)
/-- a contract out of a walk of the body, for a method without handlers -/
theorem Ctr.of {l : Launch} {K : gw_K} {M : gw_M} {As : List Value} {h : gw_H} {n mc ms : Nat} {Post : Option Value → gw_H → Nat → Prop} {PX : String → gw_H → Nat → Prop} (hl : l.stackTraces = false) (hy : plainName M.1.cls = true) (hlen : (gw_sl As).length ≤ M.2.2.1)
    (body : ∀ X : gw_X, FX l K X M.2.1 M.1.cls M.2.2.2.2.1 M.2.2.2.2.2 mc ms → RX X M.1.name M.2.2.2.1 Post PX → EX X n h → GW X 0 (gw_L0 As M.2.2.1) [] h n 0 0) : Ctr l K M As h n mc ms Post PX := by
  intro ad sz
  refine vx_ofW (cc := M.2.1) (maxL := M.2.2.1) (ret := M.2.2.2.1) (ws' := lw_tbl.filter goodWord) hy rfl ?_
  intro p e s m args below meth c s₁ B hml htab hP
  obtain ⟨rfl, hsz, hR, hok, hK, hsp, hz⟩ := hP
  have hown : s.vm.findClass M.1.cls = some m.cls := findClass_of_methodNamed B.named
  have hts := atoms_spec (ws := gw_w M) B.pre
  have hts' : ∀ w ∈ lw_tbl, goodWord w = true → w.before ((As.map (gw_V ad)).toArray) s = true := fun w h1 h2 => hts w (List.mem_cons_of_mem _ (List.mem_filter.mpr ⟨h1, h2⟩))
  subst hsz
  have key := body (p, l, e, { frames := M.2.2.2.2.1, cells := mc, slots := ms, locals := M.2.2.2.2.2 }, s, m, (As.map (gw_V ad)).toArray, below, meth, c, gw_fr ad n s.heap.size, vx_MQ below (gw_Q K ad n s.heap.size Post) (gw_XC K ad n s.heap.size PX) ((As.map (gw_V ad)).toArray) s mc ms (gw_fr ad n s.heap.size), K, ad, n)
    ⟨B.exec, B.bytes, hown, hts', hK, fun q hq => Or.inr hq, hsp, hz, rfl, rfl, rfl, hl, B.notSynchronized⟩ ⟨(name_of_methodNamed B.named B.method).1, B.returns, rfl, rfl⟩ ⟨htab, rfl, hR.2.2⟩
  rw [lg_entry_eq]
  refine key ad s.heap [] _ (hR.weaken fun k hk _ => Or.inl ⟨k, hk, rfl⟩) va_S.rf (fun _ _ => rfl) (Nat.le_refl _) ?_ (fun v hv => by cases hv)
  rw [hml]
  exact gw_entry hlen hok
