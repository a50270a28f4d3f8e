/-! methods with a table of their own: they catch what is thrown -/
abbrev gw_T : Type := List (Nat × Nat × Nat × Nat)
def gw_wH (M : gw_M) (hh : gw_T) : List Cond := .codeWith M.1 M.2.1 M.2.2.1 M.2.2.2.1 hh :: lw_tbl.filter goodWord
def CtrH (l : Launch) (K : gw_K) (M : gw_M) (hh : gw_T) (As : List Value) (h : gw_H) (n mc ms : Nat) (Post : Option Value → gw_H → Nat → Prop) (PX : String → gw_H → Nat → Prop) : Prop :=
  ∀ (ad : Nat → Nat) (sz : Nat), vx_Met l M.1 (gw_wH M hh) { frames := M.2.2.2.2.1, cells := mc, slots := ms, locals := M.2.2.2.2.2 } (gw_P K ad n As h sz) (gw_Q K ad n sz Post) (gw_XC K ad n sz PX) mc ms (gw_fr ad n sz)
def EH (X : gw_X) (hh : gw_T) : Prop := X.2.2.2.2.2.2.2.2.2.1.exceptionTable.toList = tableOf hh
theorem CtrH.of {l : Launch} {K : gw_K} {M : gw_M} {hh : gw_T} {As : List Value} {h : gw_H} {n mc ms : Nat} {Post : Option Value → gw_H → Nat → Prop} {PX : String → gw_H → Nat → Prop} (hl : l.stackTraces = false) (hy : plainName M.1.cls = true) (hlen : (gw_sl As).length ≤ M.2.2.1)
    (body : ∀ X : gw_X, FX l K X M.2.1 M.1.cls M.2.2.2.2.1 M.2.2.2.2.2 mc ms → RX X M.1.name M.2.2.2.1 Post PX → EH X hh → GW X 0 (gw_L0 As M.2.2.1) [] h n 0 0) : CtrH l K M hh As h n mc ms Post PX := by
  intro ad sz
  refine vx_ofWH (cc := M.2.1) (maxL := M.2.2.1) (ret := M.2.2.2.1) (hh := hh) (ws' := lw_tbl.filter goodWord) hy rfl ?_
  intro p e s m args below meth c s₁ B hml hP
  obtain ⟨rfl, hsz, hR, hok, hK, hsp, hz⟩ := hP
  have hown : s.vm.findClass M.1.cls = some m.cls := findClass_of_methodNamed B.named
  have hts := atoms_spec (ws := gw_wH M hh) B.pre
  have htab : c.exceptionTable.toList = tableOf hh := vx_table (x := M.1) B (hts _ List.mem_cons_self)
  have hts' : ∀ w ∈ lw_tbl, goodWord w = true → w.before ((As.map (gw_V ad)).toArray) s = true := fun w h1 h2 => hts w (List.mem_cons_of_mem _ (List.mem_filter.mpr ⟨h1, h2⟩))
  subst hsz
  have key := body (p, l, e, { frames := M.2.2.2.2.1, cells := mc, slots := ms, locals := M.2.2.2.2.2 }, s, m, (As.map (gw_V ad)).toArray, below, meth, c, gw_fr ad n s.heap.size, vx_MQ below (gw_Q K ad n s.heap.size Post) (gw_XC K ad n s.heap.size PX) ((As.map (gw_V ad)).toArray) s mc ms (gw_fr ad n s.heap.size), K, ad, n)
    ⟨B.exec, B.bytes, hown, hts', hK, fun q hq => Or.inr hq, hsp, hz, rfl, rfl, rfl, hl, B.notSynchronized⟩ ⟨(name_of_methodNamed B.named B.method).1, B.returns, rfl, rfl⟩ htab
  rw [lg_entry_eq]
  refine key ad s.heap [] _ (hR.weaken fun k hk _ => Or.inl ⟨k, hk, rfl⟩) va_S.rf (fun _ _ => rfl) (Nat.le_refl _) ?_ (fun v hv => by cases hv)
  rw [hml]
  exact gw_entry hlen hok
theorem gw_L.stN {ad : Nat → Nat} {n nL i : Nat} {ls ls' : Array Slot} {L : List (Option Value)} {v : Value} (h : gw_L ad n nL ls L) (hk : gw_k L i = true)
    (h' : lv_has ls' nL ((i, v) :: (gw_al ad L).filter (fun q => !(q.1 == i) && !(q.1 + 1 == i && q.2.category == 2)))) : gw_L ad n nL ls' (L.set i none) := by
  refine ⟨h'.1, h'.2.1, by rw [List.length_set]; exact h.2.2.1, fun j w hj => ?_⟩
  rw [List.getElem?_set] at hj
  by_cases e : i = j
  · subst e
    rw [if_pos rfl] at hj
    split at hj <;> cases hj
  · rw [if_neg e] at hj
    refine ⟨h'.2.2 (j, gw_V ad w) (List.mem_cons_of_mem _ (List.mem_filter.mpr ⟨gw_al_mem hj, ?_⟩)), (h.2.2.2 _ _ hj).2⟩
    simp only [Bool.and_eq_true, Bool.not_eq_true', beq_eq_false_iff_ne, Bool.and_eq_false_iff, gw_cat]
    refine ⟨fun q => e q.symm, ?_⟩
    by_cases e2 : j + 1 = i
    · exact Or.inr (gw_k_of hk e2 hj)
    · exact Or.inl e2
def gw_ent (x : Nat × Nat × Nat × Nat) : ExceptionTableEntry := ⟨x.1, x.2.1, x.2.2.1, x.2.2.2⟩
/-- what is thrown over a frame, caught and put away -/
theorem g_catch {l : Launch} {K : gw_K} {X : gw_X} {cc : ByteArray} {own : String} {F Lo MC MS pc w : Nat} {L : List (Option Value)} {E : String} {h : gw_H} {n kc ks i : Nat} {hh : gw_T}
    (hX : FX l K X cc own F Lo MC MS) (ht : EH X hh) (pre : gw_T) (x : Nat × Nat × Nat × Nat) (suf : gw_T) (hs : hh = pre ++ x :: suf) (hp : ∀ z ∈ pre, z.2.2.2 ≠ 0 ∧ ∃ nm : String, Cond.classLink own z.2.2.2 nm ∈ lw_tbl ∧ (E, nm) ∈ gw_ncs) (hc : covers (gw_ent x) pc = true) (h0 : x.2.2.2 ≠ 0) (hl : Cond.classLink own x.2.2.2 E ∈ lw_tbl) (hca : Cond.castable E E ∈ lw_tbl)
    (hd : (∃ q : Fin 4, (q : Nat) = i ∧ decode cc x.2.2.1 = .ok (.astore_n q, 1) ∧ w = 1) ∨ (decode cc x.2.2.1 = .ok (.astore i, 2) ∧ w = 2)) (hi2 : i < L.length) (hk : gw_k L i = true) (k : GW X (x.2.2.1 + w) (L.set i none) [] h n kc ks) : GX X pc L E h n kc ks := by
  obtain ⟨p, l1, e, R, s, m, args, below, meth, c, A, Q, K1, ad0, n0⟩ := X
  obtain ⟨hx, hb, hown, hts, hK, hA, hsp, hz, rfl, rfl, rfl, hst, hlk⟩ := hX
  intro ad H locs ls q ce rest hR hS ha hn hL h1 h2 h3
  have ht : c.exceptionTable.toList = tableOf hh := ht
  refine vx_catch (name := E) hown (tableOf pre) (gw_ent x) (tableOf suf) (by rw [ht, hs]; simp [tableOf, gw_ent]) (fun z hz => ?_) hc h0 (hts _ hl rfl) ((hsp.1 _ hca rfl).use rfl) h1 h2 h3 ?_
  · unfold tableOf at hz
    obtain ⟨y, hy, rfl⟩ := List.mem_map.mp hz
    obtain ⟨g1, nm, g2, g3⟩ := hp y hy
    exact Or.inr ⟨g1, nm, hts _ g2 rfl, hsp.2.2.2 _ g3⟩
  · rcases hd with ⟨f, hf, hd, rfl⟩ | ⟨hd, rfl⟩
    · exact lv_astore_n hx hb hd hf hL.has (by rw [← hL.2.2.1]; exact hi2) rfl (fun ls1 hl1 => k ad H locs ls1 hR hS ha hn (hL.stN hk hl1) (fun v hv => by cases hv))
    · exact lv_astore hx hb hd hL.has (by rw [← hL.2.2.1]; exact hi2) rfl (fun ls1 hl1 => k ad H locs ls1 hR hS ha hn (hL.stN hk hl1) (fun v hv => by cases hv))
theorem TowS_hs {h : gw_H} {t k : Nat} {e : gw_E} (hk : k < t ∨ t + 9 ≤ k) (hw : TowS h t) : TowS (hs h k e) t := by
  obtain ⟨wd, sk, vt, ti, fa, tf, st, ws, rc, dy, q0, q1, q2, q3, q4, q5, q6, q7, q8⟩ := hw
  exact ⟨wd, sk, vt, ti, fa, tf, st, ws, rc, dy, (hs_ne (by omega)).trans q0, (hs_ne (by omega)).trans q1, (hs_ne (by omega)).trans q2, (hs_ne (by omega)).trans q3, (hs_ne (by omega)).trans q4, (hs_ne (by omega)).trans q5, (hs_ne (by omega)).trans q6, (hs_ne (by omega)).trans q7, (hs_ne (by omega)).trans q8⟩
theorem TouS_hs {h : gw_H} {t k : Nat} {e : gw_E} (hk : k < t ∨ t + 5 ≤ k) (hw : TouS h t) : TouS (hs h k e) t := by
  obtain ⟨p, mv, ma, sn, cm, rr, q0, q1, q2, q3, q4⟩ := hw
  exact ⟨p, mv, ma, sn, cm, rr, (hs_ne (by omega)).trans q0, (hs_ne (by omega)).trans q1, (hs_ne (by omega)).trans q2, (hs_ne (by omega)).trans q3, (hs_ne (by omega)).trans q4⟩
def hsome (k : Nat) : Option Value := some (.int (nI k))
set_option maxRecDepth 20000 in
theorem ca_IndexOutOfBoundsException : Cond.castable "java/lang/IndexOutOfBoundsException" "java/lang/IndexOutOfBoundsException" ∈ lw_tbl := t1 (List.mem_of_getElem? (i := 187) rfl)
set_option maxRecDepth 20000 in
theorem ca_IllegalArgumentException : Cond.castable "java/lang/IllegalArgumentException" "java/lang/IllegalArgumentException" ∈ lw_tbl := t2 (List.mem_of_getElem? (i := 121) rfl)
set_option maxRecDepth 20000 in
theorem ca_IllegalStateException : Cond.castable "java/lang/IllegalStateException" "java/lang/IllegalStateException" ∈ lw_tbl := t2 (List.mem_of_getElem? (i := 137) rfl)
set_option maxRecDepth 20000 in
theorem xl_13 : Cond.classLink RL 13 "java/lang/IndexOutOfBoundsException" ∈ lw_tbl := t2 (List.mem_of_getElem? (i := 109) rfl)
set_option maxRecDepth 20000 in
theorem xl_15 : Cond.classLink RL 15 "java/lang/IllegalArgumentException" ∈ lw_tbl := t2 (List.mem_of_getElem? (i := 110) rfl)
set_option maxRecDepth 20000 in
theorem xl_17 : Cond.classLink RL 17 "java/lang/IllegalStateException" ∈ lw_tbl := t2 (List.mem_of_getElem? (i := 111) rfl)
def mL_ringer : gw_M := (yL_ringer, cL_ringer, 6, (some .int), 8, 135)
def hhL_ringer : gw_T := [(0, 12, 15, 13), (0, 12, 19, 15), (0, 12, 23, 17)]
set_option maxRecDepth 20000 in
theorem cw_L_ringer : Cond.codeWith yL_ringer cL_ringer 6 (some .int) hhL_ringer ∈ lw_tbl := t2 (List.mem_of_getElem? (i := 108) rfl)
set_option maxRecDepth 20000 in
theorem st_L_ringer : Cond.static yL_ringer ∈ lw_tbl := t2 (List.mem_of_getElem? (i := 107) rfl)
theorem pn_L_ringer : plainName mL_ringer.1.cls = true := by decide +kernel
def mL_vote : gw_M := (yL_vote, cL_vote, 5, (some .int), 8, 134)
def hhL_vote : gw_T := [(0, 10, 13, 13), (0, 10, 17, 15)]
set_option maxRecDepth 20000 in
theorem cw_L_vote : Cond.codeWith yL_vote cL_vote 5 (some .int) hhL_vote ∈ lw_tbl := t2 (List.mem_of_getElem? (i := 157) rfl)
set_option maxRecDepth 20000 in
theorem st_L_vote : Cond.static yL_vote ∈ lw_tbl := t2 (List.mem_of_getElem? (i := 156) rfl)
theorem pn_L_vote : plainName mL_vote.1.cls = true := by decide +kernel
def mL_seat : gw_M := (yL_seat, cL_seat, 6, (some .int), 9, 157)
def hhL_seat : gw_T := [(0, 12, 15, 13)]
set_option maxRecDepth 20000 in
theorem cw_L_seat : Cond.codeWith yL_seat cL_seat 6 (some .int) hhL_seat ∈ lw_tbl := t2 (List.mem_of_getElem? (i := 174) rfl)
set_option maxRecDepth 20000 in
theorem st_L_seat : Cond.static yL_seat ∈ lw_tbl := t2 (List.mem_of_getElem? (i := 173) rfl)
theorem pn_L_seat : plainName mL_seat.1.cls = true := by decide +kernel
def mL_elect : gw_M := (yL_elect, cL_elect, 4, (some .int), 8, 132)
def hhL_elect : gw_T := [(0, 9, 12, 13)]
set_option maxRecDepth 20000 in
theorem cw_L_elect : Cond.codeWith yL_elect cL_elect 4 (some .int) hhL_elect ∈ lw_tbl := t2 (List.mem_of_getElem? (i := 181) rfl)
set_option maxRecDepth 20000 in
theorem st_L_elect : Cond.static yL_elect ∈ lw_tbl := t2 (List.mem_of_getElem? (i := 180) rfl)
theorem pn_L_elect : plainName mL_elect.1.cls = true := by decide +kernel
def mL_put : gw_M := (yL_put, cL_put, 6, (some .int), 9, 156)
def hhL_put : gw_T := [(0, 12, 15, 13), (0, 12, 19, 17)]
set_option maxRecDepth 20000 in
theorem cw_L_put : Cond.codeWith yL_put cL_put 6 (some .int) hhL_put ∈ lw_tbl := t2 (List.mem_of_getElem? (i := 189) rfl)
set_option maxRecDepth 20000 in
theorem st_L_put : Cond.static yL_put ∈ lw_tbl := t2 (List.mem_of_getElem? (i := 188) rfl)
theorem pn_L_put : plainName mL_put.1.cls = true := by decide +kernel
def mL_leave : gw_M := (yL_leave, cL_leave, 4, (some .int), 8, 133)
def hhL_leave : gw_T := [(0, 9, 12, 13), (0, 9, 15, 17)]
set_option maxRecDepth 20000 in
theorem cw_L_leave : Cond.codeWith yL_leave cL_leave 4 (some .int) hhL_leave ∈ lw_tbl := t2 (List.mem_of_getElem? (i := 199) rfl)
set_option maxRecDepth 20000 in
theorem st_L_leave : Cond.static yL_leave ∈ lw_tbl := t2 (List.mem_of_getElem? (i := 198) rfl)
theorem pn_L_leave : plainName mL_leave.1.cls = true := by decide +kernel
def mL_told : gw_M := (yL_told, cL_told, 5, (some .int), 8, 133)
def hhL_told : gw_T := [(0, 10, 13, 13)]
set_option maxRecDepth 20000 in
theorem cw_L_told : Cond.codeWith yL_told cL_told 5 (some .int) hhL_told ∈ lw_tbl := t2 (List.mem_of_getElem? (i := 209) rfl)
set_option maxRecDepth 20000 in
theorem st_L_told : Cond.static yL_told ∈ lw_tbl := t2 (List.mem_of_getElem? (i := 208) rfl)
theorem pn_L_told : plainName mL_told.1.cls = true := by decide +kernel
def mL_bell : gw_M := (yL_bell, cL_bell, 6, (some .int), 9, 156)
def hhL_bell : gw_T := [(0, 12, 15, 13)]
set_option maxRecDepth 20000 in
theorem cw_L_bell : Cond.codeWith yL_bell cL_bell 6 (some .int) hhL_bell ∈ lw_tbl := t2 (List.mem_of_getElem? (i := 213) rfl)
set_option maxRecDepth 20000 in
theorem st_L_bell : Cond.static yL_bell ∈ lw_tbl := t2 (List.mem_of_getElem? (i := 212) rfl)
theorem pn_L_bell : plainName mL_bell.1.cls = true := by decide +kernel
def mL_method : gw_M := (yL_method, cL_method, 3, (some .int), 7, 110)
def hhL_method : gw_T := [(0, 8, 11, 17)]
set_option maxRecDepth 20000 in
theorem cw_L_method : Cond.codeWith yL_method cL_method 3 (some .int) hhL_method ∈ lw_tbl := t2 (List.mem_of_getElem? (i := 217) rfl)
set_option maxRecDepth 20000 in
theorem st_L_method : Cond.static yL_method ∈ lw_tbl := t2 (List.mem_of_getElem? (i := 216) rfl)
theorem pn_L_method : plainName mL_method.1.cls = true := by decide +kernel
def mL_add : gw_M := (yL_add, cL_add, 5, (some .int), 9, 155)
def hhL_add : gw_T := [(0, 10, 13, 13), (0, 10, 17, 15), (0, 10, 21, 17)]
set_option maxRecDepth 20000 in
theorem cw_L_add : Cond.codeWith yL_add cL_add 5 (some .int) hhL_add ∈ lw_tbl := t2 (List.mem_of_getElem? (i := 225) rfl)
set_option maxRecDepth 20000 in
theorem st_L_add : Cond.static yL_add ∈ lw_tbl := t2 (List.mem_of_getElem? (i := 224) rfl)
theorem pn_L_add : plainName mL_add.1.cls = true := by decide +kernel
def mL_about : gw_M := (yL_about, cL_about, 5, (some .int), 9, 155)
def hhL_about : gw_T := [(0, 10, 13, 13)]
set_option maxRecDepth 20000 in
theorem cw_L_about : Cond.codeWith yL_about cL_about 5 (some .int) hhL_about ∈ lw_tbl := t3 (List.mem_of_getElem? (i := 49) rfl)
set_option maxRecDepth 20000 in
theorem st_L_about : Cond.static yL_about ∈ lw_tbl := t3 (List.mem_of_getElem? (i := 48) rfl)
theorem pn_L_about : plainName mL_about.1.cls = true := by decide +kernel
def mL_row : gw_M := (yL_row, cL_row, 5, (some .int), 9, 157)
def hhL_row : gw_T := [(0, 10, 13, 13), (0, 10, 17, 15), (0, 10, 21, 17)]
set_option maxRecDepth 20000 in
theorem cw_L_row : Cond.codeWith yL_row cL_row 5 (some .int) hhL_row ∈ lw_tbl := t3 (List.mem_of_getElem? (i := 53) rfl)
set_option maxRecDepth 20000 in
theorem st_L_row : Cond.static yL_row ∈ lw_tbl := t3 (List.mem_of_getElem? (i := 52) rfl)
theorem pn_L_row : plainName mL_row.1.cls = true := by decide +kernel
def mL_dodges : gw_M := (yL_dodges, cL_dodges, 5, (some .int), 9, 155)
def hhL_dodges : gw_T := [(0, 10, 13, 13)]
set_option maxRecDepth 20000 in
theorem cw_L_dodges : Cond.codeWith yL_dodges cL_dodges 5 (some .int) hhL_dodges ∈ lw_tbl := t3 (List.mem_of_getElem? (i := 71) rfl)
set_option maxRecDepth 20000 in
theorem st_L_dodges : Cond.static yL_dodges ∈ lw_tbl := t3 (List.mem_of_getElem? (i := 70) rfl)
theorem pn_L_dodges : plainName mL_dodges.1.cls = true := by decide +kernel
def mL_ring : gw_M := (yL_ring, cL_ring, 6, (some .int), 9, 157)
def hhL_ring : gw_T := [(0, 12, 15, 13), (0, 12, 19, 15), (0, 12, 23, 17)]
set_option maxRecDepth 20000 in
theorem cw_L_ring : Cond.codeWith yL_ring cL_ring 6 (some .int) hhL_ring ∈ lw_tbl := t3 (List.mem_of_getElem? (i := 75) rfl)
set_option maxRecDepth 20000 in
theorem st_L_ring : Cond.static yL_ring ∈ lw_tbl := t3 (List.mem_of_getElem? (i := 74) rfl)
theorem pn_L_ring : plainName mL_ring.1.cls = true := by decide +kernel
def mL_would : gw_M := (yL_would, cL_would, 6, (some .int), 9, 156)
def hhL_would : gw_T := [(0, 12, 15, 13), (0, 12, 19, 15)]
set_option maxRecDepth 20000 in
theorem cw_L_would : Cond.codeWith yL_would cL_would 6 (some .int) hhL_would ∈ lw_tbl := t3 (List.mem_of_getElem? (i := 111) rfl)
set_option maxRecDepth 20000 in
theorem st_L_would : Cond.static yL_would ∈ lw_tbl := t3 (List.mem_of_getElem? (i := 110) rfl)
theorem pn_L_would : plainName mL_would.1.cls = true := by decide +kernel
def mL_advise : gw_M := (yL_advise, cL_advise, 4, (some .int), 9, 158)
def hhL_advise : gw_T := [(0, 9, 12, 13)]
set_option maxRecDepth 20000 in
theorem cw_L_advise : Cond.codeWith yL_advise cL_advise 4 (some .int) hhL_advise ∈ lw_tbl := t3 (List.mem_of_getElem? (i := 122) rfl)
set_option maxRecDepth 20000 in
theorem st_L_advise : Cond.static yL_advise ∈ lw_tbl := t3 (List.mem_of_getElem? (i := 121) rfl)
theorem pn_L_advise : plainName mL_advise.1.cls = true := by decide +kernel
def mL_count : gw_M := (yL_count, cL_count, 4, (some .int), 8, 132)
def hhL_count : gw_T := [(0, 9, 12, 13)]
set_option maxRecDepth 20000 in
theorem cw_L_count : Cond.codeWith yL_count cL_count 4 (some .int) hhL_count ∈ lw_tbl := t3 (List.mem_of_getElem? (i := 129) rfl)
set_option maxRecDepth 20000 in
theorem st_L_count : Cond.static yL_count ∈ lw_tbl := t3 (List.mem_of_getElem? (i := 128) rfl)
theorem pn_L_count : plainName mL_count.1.cls = true := by decide +kernel
def mL_pass : gw_M := (yL_pass, cL_pass, 4, (some .int), 8, 133)
def hhL_pass : gw_T := [(0, 9, 12, 15)]
set_option maxRecDepth 20000 in
theorem cw_L_pass : Cond.codeWith yL_pass cL_pass 4 (some .int) hhL_pass ∈ lw_tbl := t3 (List.mem_of_getElem? (i := 133) rfl)
set_option maxRecDepth 20000 in
theorem st_L_pass : Cond.static yL_pass ∈ lw_tbl := t3 (List.mem_of_getElem? (i := 132) rfl)
theorem pn_L_pass : plainName mL_pass.1.cls = true := by decide +kernel
def mL_foresee : gw_M := (yL_foresee, cL_foresee, 6, (some .int), 8, 135)
def hhL_foresee : gw_T := [(0, 12, 15, 13), (0, 12, 19, 15)]
set_option maxRecDepth 20000 in
theorem cw_L_foresee : Cond.codeWith yL_foresee cL_foresee 6 (some .int) hhL_foresee ∈ lw_tbl := t3 (List.mem_of_getElem? (i := 153) rfl)
set_option maxRecDepth 20000 in
theorem st_L_foresee : Cond.static yL_foresee ∈ lw_tbl := t3 (List.mem_of_getElem? (i := 152) rfl)
theorem pn_L_foresee : plainName mL_foresee.1.cls = true := by decide +kernel
set_option maxRecDepth 20000 in
theorem kL_ringer {l : Launch} {K : gw_K} (hst : l.stackTraces = false) {n : Nat} {h : gw_H} {p0 p1 p2 : Int32} {fs : List Value} {Post : Option Value → gw_H → Nat → Prop} {PX : String → gw_H → Nat → Prop} (h0 : h 0 = oB 3 fs) (hc : Ctr l K mX3_ringer [.ref 0, .int p0, .int p1, .int p2] h n 1 6 Post PX) (h61 : ∀ rv h' n', Post rv h' n' → ∃ v o, rv = some (.int v) ∧ h' 61 = aJ 1 o) (hx : ∀ E h' n', PX E h' n' → (E = "java/lang/IndexOutOfBoundsException") ∨ (E = "java/lang/IllegalArgumentException") ∨ (E = "java/lang/IllegalStateException")) : CtrH l K mL_ringer hhL_ringer [.ref 0, .int p0, .int p1, .int p2, .ref 61] h n 1 6 (fun rv h' n' => (∃ E, PX E h' n' ∧ ((E = "java/lang/IndexOutOfBoundsException" ∧ rv = some (.int (nI 1))) ∨ (E = "java/lang/IllegalArgumentException" ∧ rv = some (.int (nI 2))) ∨ (E = "java/lang/IllegalStateException" ∧ rv = some (.int (nI 3))))) ∨ ∃ v o h2, Post (some (.int v)) h2 n' ∧ h2 61 = aJ 1 o ∧ rv = some (.int (nI 0)) ∧ h' = hs h2 61 (aJ 1 (vp_updL o 0 v.toInt64))) PX0 := by
  refine CtrH.of hst pn_L_ringer (Nat.le_of_ble_eq_true rfl) (fun X hX hr hT => ?_)
  have hX : FX l K X cL_ringer RL 8 135 1 6 := hX
  show GW X 0 [some (.ref 0), some (.int p0), some (.int p1), some (.int p2), some (.ref 61), none] [] h n 0 0
  refine g_aload hX dL_ringer_0 rfl ?_
  refine g_iconst (v := (nI 0)) hX dL_ringer_2 (by decide) ?_
  refine g_aload_n hX dL_ringer_3 rfl rfl ?_
  refine g_iload_n hX dL_ringer_4 rfl rfl ?_
  refine g_iload_n hX dL_ringer_5 rfl rfl ?_
  refine g_iload_n hX dL_ringer_6 rfl rfl ?_
  refine g_callV (As := [.int p0, .int p1, .int p2]) hX dL_ringer_7 cb_X3_ringer ml_L_7 im_X3_ringer se_X3_ringer rfl rfl (h0) ⟨_, rfl, rfl⟩ hc (Nat.le_of_ble_eq_true rfl) (Nat.le_of_ble_eq_true rfl) (by omega) (by omega) (Nat.le_of_ble_eq_true rfl) ?_ ?_
  · intro E h1 n1 hn1 hp
    rcases hx E h1 n1 hp with rfl | rfl | rfl
    · refine g_catch (w := 2) (i := 5) hX hT [] (0, 12, 15, 13) [(0, 12, 19, 15), (0, 12, 23, 17)] rfl (fun z hz => by cases hz) (by decide) (by decide) xl_13 ca_IndexOutOfBoundsException (Or.inr ⟨dL_ringer_15, rfl⟩) (Nat.le_of_ble_eq_true rfl) rfl ?_
      refine g_iconst (v := nI 1) hX dL_ringer_17 (by decide) ?_
      refine g_ireturn hX hr dL_ringer_18 (by omega) (by omega) ?_
      exact Or.inl ⟨_, hp, Or.inl ⟨rfl, rfl⟩⟩
    · refine g_catch (w := 2) (i := 5) hX hT [(0, 12, 15, 13)] (0, 12, 19, 15) [(0, 12, 23, 17)] rfl (fun z hz => by
          rcases (by simpa using hz : z = (0, 12, 15, 13)) with rfl
          · exact ⟨by decide, _, xl_13, by decide⟩) (by decide) (by decide) xl_15 ca_IllegalArgumentException (Or.inr ⟨dL_ringer_19, rfl⟩) (Nat.le_of_ble_eq_true rfl) rfl ?_
      refine g_iconst (v := nI 2) hX dL_ringer_21 (by decide) ?_
      refine g_ireturn hX hr dL_ringer_22 (by omega) (by omega) ?_
      exact Or.inl ⟨_, hp, Or.inr (Or.inl ⟨rfl, rfl⟩)⟩
    · refine g_catch (w := 2) (i := 5) hX hT [(0, 12, 15, 13), (0, 12, 19, 15)] (0, 12, 23, 17) [] rfl (fun z hz => by
          rcases (by simpa using hz : z = (0, 12, 15, 13) ∨ z = (0, 12, 19, 15)) with rfl | rfl
          · exact ⟨by decide, _, xl_13, by decide⟩
          · exact ⟨by decide, _, xl_15, by decide⟩) (by decide) (by decide) xl_17 ca_IllegalStateException (Or.inr ⟨dL_ringer_23, rfl⟩) (Nat.le_of_ble_eq_true rfl) rfl ?_
      refine g_iconst (v := nI 3) hX dL_ringer_25 (by decide) ?_
      refine g_ireturn hX hr dL_ringer_26 (by omega) (by omega) ?_
      exact Or.inl ⟨_, hp, Or.inr (Or.inr ⟨rfl, rfl⟩)⟩
  · intro rv h1 n1 hn1 hp
    obtain ⟨v, o, rfl, ho⟩ := h61 rv h1 n1 hp
    refine g_i2l hX dL_ringer_10 ?_
    refine g_lastore hX dL_ringer_11 ho 0 (by omega) rfl (by omega) ?_
    refine g_goto (tgt := 27) hX dL_ringer_12 (by decide) ?_
    refine g_iconst (v := nI 0) hX dL_ringer_27 (by decide) ?_
    refine g_ireturn hX hr dL_ringer_28 (by omega) (by omega) ?_
    exact Or.inr ⟨v, o, h1, hp, ho, rfl, rfl⟩
set_option maxRecDepth 20000 in
theorem kL_vote {l : Launch} {K : gw_K} (hst : l.stackTraces = false) {n : Nat} {h : gw_H} {p0 p1 : Int32} {fs : List Value} {Post : Option Value → gw_H → Nat → Prop} {PX : String → gw_H → Nat → Prop} (h0 : h 0 = oB 3 fs) (hc : Ctr l K mX3_vote [.ref 0, .int p0, .int p1] h n 1 6 Post PX) (h61 : ∀ rv h' n', Post rv h' n' → ∃ v o, rv = some (.int v) ∧ h' 61 = aJ 1 o) (hx : ∀ E h' n', PX E h' n' → (E = "java/lang/IndexOutOfBoundsException") ∨ (E = "java/lang/IllegalArgumentException")) : CtrH l K mL_vote hhL_vote [.ref 0, .int p0, .int p1, .ref 61] h n 1 6 (fun rv h' n' => (∃ E, PX E h' n' ∧ ((E = "java/lang/IndexOutOfBoundsException" ∧ rv = some (.int (nI 1))) ∨ (E = "java/lang/IllegalArgumentException" ∧ rv = some (.int (nI 2))))) ∨ ∃ v o h2, Post (some (.int v)) h2 n' ∧ h2 61 = aJ 1 o ∧ rv = some (.int (nI 0)) ∧ h' = hs h2 61 (aJ 1 (vp_updL o 0 v.toInt64))) PX0 := by
  refine CtrH.of hst pn_L_vote (Nat.le_of_ble_eq_true rfl) (fun X hX hr hT => ?_)
  have hX : FX l K X cL_vote RL 8 134 1 6 := hX
  show GW X 0 [some (.ref 0), some (.int p0), some (.int p1), some (.ref 61), none] [] h n 0 0
  refine g_aload_n hX dL_vote_0 rfl rfl ?_
  refine g_iconst (v := (nI 0)) hX dL_vote_1 (by decide) ?_
  refine g_aload_n hX dL_vote_2 rfl rfl ?_
  refine g_iload_n hX dL_vote_3 rfl rfl ?_
  refine g_iload_n hX dL_vote_4 rfl rfl ?_
  refine g_callV (As := [.int p0, .int p1]) hX dL_vote_5 cb_X3_vote ml_L_19 im_X3_vote se_X3_vote rfl rfl (h0) ⟨_, rfl, rfl⟩ hc (Nat.le_of_ble_eq_true rfl) (Nat.le_of_ble_eq_true rfl) (by omega) (by omega) (Nat.le_of_ble_eq_true rfl) ?_ ?_
  · intro E h1 n1 hn1 hp
    rcases hx E h1 n1 hp with rfl | rfl
    · refine g_catch (w := 2) (i := 4) hX hT [] (0, 10, 13, 13) [(0, 10, 17, 15)] rfl (fun z hz => by cases hz) (by decide) (by decide) xl_13 ca_IndexOutOfBoundsException (Or.inr ⟨dL_vote_13, rfl⟩) (Nat.le_of_ble_eq_true rfl) rfl ?_
      refine g_iconst (v := nI 1) hX dL_vote_15 (by decide) ?_
      refine g_ireturn hX hr dL_vote_16 (by omega) (by omega) ?_
      exact Or.inl ⟨_, hp, Or.inl ⟨rfl, rfl⟩⟩
    · refine g_catch (w := 2) (i := 4) hX hT [(0, 10, 13, 13)] (0, 10, 17, 15) [] rfl (fun z hz => by
          rcases (by simpa using hz : z = (0, 10, 13, 13)) with rfl
          · exact ⟨by decide, _, xl_13, by decide⟩) (by decide) (by decide) xl_15 ca_IllegalArgumentException (Or.inr ⟨dL_vote_17, rfl⟩) (Nat.le_of_ble_eq_true rfl) rfl ?_
      refine g_iconst (v := nI 2) hX dL_vote_19 (by decide) ?_
      refine g_ireturn hX hr dL_vote_20 (by omega) (by omega) ?_
      exact Or.inl ⟨_, hp, Or.inr ⟨rfl, rfl⟩⟩
  · intro rv h1 n1 hn1 hp
    obtain ⟨v, o, rfl, ho⟩ := h61 rv h1 n1 hp
    refine g_i2l hX dL_vote_8 ?_
    refine g_lastore hX dL_vote_9 ho 0 (by omega) rfl (by omega) ?_
    refine g_goto (tgt := 21) hX dL_vote_10 (by decide) ?_
    refine g_iconst (v := nI 0) hX dL_vote_21 (by decide) ?_
    refine g_ireturn hX hr dL_vote_22 (by omega) (by omega) ?_
    exact Or.inr ⟨v, o, h1, hp, ho, rfl, rfl⟩
set_option maxRecDepth 20000 in
theorem kL_seat {l : Launch} {K : gw_K} (hst : l.stackTraces = false) {n : Nat} {h : gw_H} {p0 p1 p2 : Int32} {fs : List Value} {Post : Option Value → gw_H → Nat → Prop} {PX : String → gw_H → Nat → Prop} (h0 : h 0 = oB 3 fs) (hc : Ctr l K mX3_seat [.ref 0, .int p0, .int p1, .int p2] h n 1 6 Post PX) (h61 : ∀ rv h' n', Post rv h' n' → ∃ v o, rv = some (.int v) ∧ h' 61 = aJ 1 o) (hx : ∀ E h' n', PX E h' n' → (E = "java/lang/IndexOutOfBoundsException")) : CtrH l K mL_seat hhL_seat [.ref 0, .int p0, .int p1, .int p2, .ref 61] h n 1 6 (fun rv h' n' => (∃ E, PX E h' n' ∧ ((E = "java/lang/IndexOutOfBoundsException" ∧ rv = some (.int (nI 1))))) ∨ ∃ v o h2, Post (some (.int v)) h2 n' ∧ h2 61 = aJ 1 o ∧ rv = some (.int (nI 0)) ∧ h' = hs h2 61 (aJ 1 (vp_updL o 0 v.toInt64))) PX0 := by
  refine CtrH.of hst pn_L_seat (Nat.le_of_ble_eq_true rfl) (fun X hX hr hT => ?_)
  have hX : FX l K X cL_seat RL 9 157 1 6 := hX
  show GW X 0 [some (.ref 0), some (.int p0), some (.int p1), some (.int p2), some (.ref 61), none] [] h n 0 0
  refine g_aload hX dL_seat_0 rfl ?_
  refine g_iconst (v := (nI 0)) hX dL_seat_2 (by decide) ?_
  refine g_aload_n hX dL_seat_3 rfl rfl ?_
  refine g_iload_n hX dL_seat_4 rfl rfl ?_
  refine g_iload_n hX dL_seat_5 rfl rfl ?_
  refine g_iload_n hX dL_seat_6 rfl rfl ?_
  refine g_callV (As := [.int p0, .int p1, .int p2]) hX dL_seat_7 cb_X3_seat ml_L_23 im_X3_seat se_X3_seat rfl rfl (h0) ⟨_, rfl, rfl⟩ hc (Nat.le_of_ble_eq_true rfl) (Nat.le_of_ble_eq_true rfl) (by omega) (by omega) (Nat.le_of_ble_eq_true rfl) ?_ ?_
  · intro E h1 n1 hn1 hp
    obtain rfl := hx E h1 n1 hp
    refine g_catch (w := 2) (i := 5) hX hT [] (0, 12, 15, 13) [] rfl (fun z hz => by cases hz) (by decide) (by decide) xl_13 ca_IndexOutOfBoundsException (Or.inr ⟨dL_seat_15, rfl⟩) (Nat.le_of_ble_eq_true rfl) rfl ?_
    refine g_iconst (v := nI 1) hX dL_seat_17 (by decide) ?_
    refine g_ireturn hX hr dL_seat_18 (by omega) (by omega) ?_
    exact Or.inl ⟨_, hp, ⟨rfl, rfl⟩⟩
  · intro rv h1 n1 hn1 hp
    obtain ⟨v, o, rfl, ho⟩ := h61 rv h1 n1 hp
    refine g_i2l hX dL_seat_10 ?_
    refine g_lastore hX dL_seat_11 ho 0 (by omega) rfl (by omega) ?_
    refine g_goto (tgt := 19) hX dL_seat_12 (by decide) ?_
    refine g_iconst (v := nI 0) hX dL_seat_19 (by decide) ?_
    refine g_ireturn hX hr dL_seat_20 (by omega) (by omega) ?_
    exact Or.inr ⟨v, o, h1, hp, ho, rfl, rfl⟩
set_option maxRecDepth 20000 in
theorem kL_elect {l : Launch} {K : gw_K} (hst : l.stackTraces = false) {n : Nat} {h : gw_H} {p0 : Int32} {fs : List Value} {Post : Option Value → gw_H → Nat → Prop} {PX : String → gw_H → Nat → Prop} (h0 : h 0 = oB 3 fs) (hc : Ctr l K mX3_elect [.ref 0, .int p0] h n 1 6 Post PX) (h61 : ∀ rv h' n', Post rv h' n' → ∃ v o, rv = some (.int v) ∧ h' 61 = aJ 1 o) (hx : ∀ E h' n', PX E h' n' → (E = "java/lang/IndexOutOfBoundsException")) : CtrH l K mL_elect hhL_elect [.ref 0, .int p0, .ref 61] h n 1 6 (fun rv h' n' => (∃ E, PX E h' n' ∧ ((E = "java/lang/IndexOutOfBoundsException" ∧ rv = some (.int (nI 1))))) ∨ ∃ v o h2, Post (some (.int v)) h2 n' ∧ h2 61 = aJ 1 o ∧ rv = some (.int (nI 0)) ∧ h' = hs h2 61 (aJ 1 (vp_updL o 0 v.toInt64))) PX0 := by
  refine CtrH.of hst pn_L_elect (Nat.le_of_ble_eq_true rfl) (fun X hX hr hT => ?_)
  have hX : FX l K X cL_elect RL 8 132 1 6 := hX
  show GW X 0 [some (.ref 0), some (.int p0), some (.ref 61), none] [] h n 0 0
  refine g_aload_n hX dL_elect_0 rfl rfl ?_
  refine g_iconst (v := (nI 0)) hX dL_elect_1 (by decide) ?_
  refine g_aload_n hX dL_elect_2 rfl rfl ?_
  refine g_iload_n hX dL_elect_3 rfl rfl ?_
  refine g_callV (As := [.int p0]) hX dL_elect_4 cb_X3_elect ml_L_26 im_X3_elect se_X3_elect rfl rfl (h0) ⟨_, rfl, rfl⟩ hc (Nat.le_of_ble_eq_true rfl) (Nat.le_of_ble_eq_true rfl) (by omega) (by omega) (Nat.le_of_ble_eq_true rfl) ?_ ?_
  · intro E h1 n1 hn1 hp
    obtain rfl := hx E h1 n1 hp
    refine g_catch (w := 1) (i := 3) hX hT [] (0, 9, 12, 13) [] rfl (fun z hz => by cases hz) (by decide) (by decide) xl_13 ca_IndexOutOfBoundsException (Or.inl ⟨3, rfl, dL_elect_12, rfl⟩) (Nat.le_of_ble_eq_true rfl) rfl ?_
    refine g_iconst (v := nI 1) hX dL_elect_13 (by decide) ?_
    refine g_ireturn hX hr dL_elect_14 (by omega) (by omega) ?_
    exact Or.inl ⟨_, hp, ⟨rfl, rfl⟩⟩
  · intro rv h1 n1 hn1 hp
    obtain ⟨v, o, rfl, ho⟩ := h61 rv h1 n1 hp
    refine g_i2l hX dL_elect_7 ?_
    refine g_lastore hX dL_elect_8 ho 0 (by omega) rfl (by omega) ?_
    refine g_goto (tgt := 15) hX dL_elect_9 (by decide) ?_
    refine g_iconst (v := nI 0) hX dL_elect_15 (by decide) ?_
    refine g_ireturn hX hr dL_elect_16 (by omega) (by omega) ?_
    exact Or.inr ⟨v, o, h1, hp, ho, rfl, rfl⟩
set_option maxRecDepth 20000 in
theorem kL_put {l : Launch} {K : gw_K} (hst : l.stackTraces = false) {n : Nat} {h : gw_H} {p0 p1 p2 : Int32} {fs : List Value} {Post : Option Value → gw_H → Nat → Prop} {PX : String → gw_H → Nat → Prop} (h0 : h 0 = oB 3 fs) (hc : Ctr l K mX3_put [.ref 0, .int p0, .int p1, .int p2] h n 1 6 Post PX) (h61 : ∀ rv h' n', Post rv h' n' → ∃ v o, rv = some (.int v) ∧ h' 61 = aJ 1 o) (hx : ∀ E h' n', PX E h' n' → (E = "java/lang/IndexOutOfBoundsException") ∨ (E = "java/lang/IllegalStateException")) : CtrH l K mL_put hhL_put [.ref 0, .int p0, .int p1, .int p2, .ref 61] h n 1 6 (fun rv h' n' => (∃ E, PX E h' n' ∧ ((E = "java/lang/IndexOutOfBoundsException" ∧ rv = some (.int (nI 1))) ∨ (E = "java/lang/IllegalStateException" ∧ rv = some (.int (nI 2))))) ∨ ∃ v o h2, Post (some (.int v)) h2 n' ∧ h2 61 = aJ 1 o ∧ rv = some (.int (nI 0)) ∧ h' = hs h2 61 (aJ 1 (vp_updL o 0 v.toInt64))) PX0 := by
  refine CtrH.of hst pn_L_put (Nat.le_of_ble_eq_true rfl) (fun X hX hr hT => ?_)
  have hX : FX l K X cL_put RL 9 156 1 6 := hX
  show GW X 0 [some (.ref 0), some (.int p0), some (.int p1), some (.int p2), some (.ref 61), none] [] h n 0 0
  refine g_aload hX dL_put_0 rfl ?_
  refine g_iconst (v := (nI 0)) hX dL_put_2 (by decide) ?_
  refine g_aload_n hX dL_put_3 rfl rfl ?_
  refine g_iload_n hX dL_put_4 rfl rfl ?_
  refine g_iload_n hX dL_put_5 rfl rfl ?_
  refine g_iload_n hX dL_put_6 rfl rfl ?_
  refine g_callV (As := [.int p0, .int p1, .int p2]) hX dL_put_7 cb_X3_put ml_L_30 im_X3_put se_X3_put rfl rfl (h0) ⟨_, rfl, rfl⟩ hc (Nat.le_of_ble_eq_true rfl) (Nat.le_of_ble_eq_true rfl) (by omega) (by omega) (Nat.le_of_ble_eq_true rfl) ?_ ?_
  · intro E h1 n1 hn1 hp
    rcases hx E h1 n1 hp with rfl | rfl
    · refine g_catch (w := 2) (i := 5) hX hT [] (0, 12, 15, 13) [(0, 12, 19, 17)] rfl (fun z hz => by cases hz) (by decide) (by decide) xl_13 ca_IndexOutOfBoundsException (Or.inr ⟨dL_put_15, rfl⟩) (Nat.le_of_ble_eq_true rfl) rfl ?_
      refine g_iconst (v := nI 1) hX dL_put_17 (by decide) ?_
      refine g_ireturn hX hr dL_put_18 (by omega) (by omega) ?_
      exact Or.inl ⟨_, hp, Or.inl ⟨rfl, rfl⟩⟩
    · refine g_catch (w := 2) (i := 5) hX hT [(0, 12, 15, 13)] (0, 12, 19, 17) [] rfl (fun z hz => by
          rcases (by simpa using hz : z = (0, 12, 15, 13)) with rfl
          · exact ⟨by decide, _, xl_13, by decide⟩) (by decide) (by decide) xl_17 ca_IllegalStateException (Or.inr ⟨dL_put_19, rfl⟩) (Nat.le_of_ble_eq_true rfl) rfl ?_
      refine g_iconst (v := nI 2) hX dL_put_21 (by decide) ?_
      refine g_ireturn hX hr dL_put_22 (by omega) (by omega) ?_
      exact Or.inl ⟨_, hp, Or.inr ⟨rfl, rfl⟩⟩
  · intro rv h1 n1 hn1 hp
    obtain ⟨v, o, rfl, ho⟩ := h61 rv h1 n1 hp
    refine g_i2l hX dL_put_10 ?_
    refine g_lastore hX dL_put_11 ho 0 (by omega) rfl (by omega) ?_
    refine g_goto (tgt := 23) hX dL_put_12 (by decide) ?_
    refine g_iconst (v := nI 0) hX dL_put_23 (by decide) ?_
    refine g_ireturn hX hr dL_put_24 (by omega) (by omega) ?_
    exact Or.inr ⟨v, o, h1, hp, ho, rfl, rfl⟩
set_option maxRecDepth 20000 in
theorem kL_leave {l : Launch} {K : gw_K} (hst : l.stackTraces = false) {n : Nat} {h : gw_H} {p0 : Int32} {fs : List Value} {Post : Option Value → gw_H → Nat → Prop} {PX : String → gw_H → Nat → Prop} (h0 : h 0 = oB 3 fs) (hc : Ctr l K mX3_leave [.ref 0, .int p0] h n 1 6 Post PX) (h61 : ∀ rv h' n', Post rv h' n' → ∃ v o, rv = some (.int v) ∧ h' 61 = aJ 1 o) (hx : ∀ E h' n', PX E h' n' → (E = "java/lang/IndexOutOfBoundsException") ∨ (E = "java/lang/IllegalStateException")) : CtrH l K mL_leave hhL_leave [.ref 0, .int p0, .ref 61] h n 1 6 (fun rv h' n' => (∃ E, PX E h' n' ∧ ((E = "java/lang/IndexOutOfBoundsException" ∧ rv = some (.int (nI 1))) ∨ (E = "java/lang/IllegalStateException" ∧ rv = some (.int (nI 2))))) ∨ ∃ v o h2, Post (some (.int v)) h2 n' ∧ h2 61 = aJ 1 o ∧ rv = some (.int (nI 0)) ∧ h' = hs h2 61 (aJ 1 (vp_updL o 0 v.toInt64))) PX0 := by
  refine CtrH.of hst pn_L_leave (Nat.le_of_ble_eq_true rfl) (fun X hX hr hT => ?_)
  have hX : FX l K X cL_leave RL 8 133 1 6 := hX
  show GW X 0 [some (.ref 0), some (.int p0), some (.ref 61), none] [] h n 0 0
  refine g_aload_n hX dL_leave_0 rfl rfl ?_
  refine g_iconst (v := (nI 0)) hX dL_leave_1 (by decide) ?_
  refine g_aload_n hX dL_leave_2 rfl rfl ?_
  refine g_iload_n hX dL_leave_3 rfl rfl ?_
  refine g_callV (As := [.int p0]) hX dL_leave_4 cb_X3_leave ml_L_33 im_X3_leave se_X3_leave rfl rfl (h0) ⟨_, rfl, rfl⟩ hc (Nat.le_of_ble_eq_true rfl) (Nat.le_of_ble_eq_true rfl) (by omega) (by omega) (Nat.le_of_ble_eq_true rfl) ?_ ?_
  · intro E h1 n1 hn1 hp
    rcases hx E h1 n1 hp with rfl | rfl
    · refine g_catch (w := 1) (i := 3) hX hT [] (0, 9, 12, 13) [(0, 9, 15, 17)] rfl (fun z hz => by cases hz) (by decide) (by decide) xl_13 ca_IndexOutOfBoundsException (Or.inl ⟨3, rfl, dL_leave_12, rfl⟩) (Nat.le_of_ble_eq_true rfl) rfl ?_
      refine g_iconst (v := nI 1) hX dL_leave_13 (by decide) ?_
      refine g_ireturn hX hr dL_leave_14 (by omega) (by omega) ?_
      exact Or.inl ⟨_, hp, Or.inl ⟨rfl, rfl⟩⟩
    · refine g_catch (w := 1) (i := 3) hX hT [(0, 9, 12, 13)] (0, 9, 15, 17) [] rfl (fun z hz => by
          rcases (by simpa using hz : z = (0, 9, 12, 13)) with rfl
          · exact ⟨by decide, _, xl_13, by decide⟩) (by decide) (by decide) xl_17 ca_IllegalStateException (Or.inl ⟨3, rfl, dL_leave_15, rfl⟩) (Nat.le_of_ble_eq_true rfl) rfl ?_
      refine g_iconst (v := nI 2) hX dL_leave_16 (by decide) ?_
      refine g_ireturn hX hr dL_leave_17 (by omega) (by omega) ?_
      exact Or.inl ⟨_, hp, Or.inr ⟨rfl, rfl⟩⟩
  · intro rv h1 n1 hn1 hp
    obtain ⟨v, o, rfl, ho⟩ := h61 rv h1 n1 hp
    refine g_i2l hX dL_leave_7 ?_
    refine g_lastore hX dL_leave_8 ho 0 (by omega) rfl (by omega) ?_
    refine g_goto (tgt := 18) hX dL_leave_9 (by decide) ?_
    refine g_iconst (v := nI 0) hX dL_leave_18 (by decide) ?_
    refine g_ireturn hX hr dL_leave_19 (by omega) (by omega) ?_
    exact Or.inr ⟨v, o, h1, hp, ho, rfl, rfl⟩
set_option maxRecDepth 20000 in
theorem kL_told {l : Launch} {K : gw_K} (hst : l.stackTraces = false) {n : Nat} {h : gw_H} {p0 p1 : Int32} {fs : List Value} {Post : Option Value → gw_H → Nat → Prop} {PX : String → gw_H → Nat → Prop} (h0 : h 0 = oB 3 fs) (hc : Ctr l K mX3_told [.ref 0, .int p0, .int p1] h n 1 6 Post PX) (h61 : ∀ rv h' n', Post rv h' n' → ∃ v o, rv = some (.int v) ∧ h' 61 = aJ 1 o) (hx : ∀ E h' n', PX E h' n' → (E = "java/lang/IndexOutOfBoundsException")) : CtrH l K mL_told hhL_told [.ref 0, .int p0, .int p1, .ref 61] h n 1 6 (fun rv h' n' => (∃ E, PX E h' n' ∧ ((E = "java/lang/IndexOutOfBoundsException" ∧ rv = some (.int (nI 1))))) ∨ ∃ v o h2, Post (some (.int v)) h2 n' ∧ h2 61 = aJ 1 o ∧ rv = some (.int (nI 0)) ∧ h' = hs h2 61 (aJ 1 (vp_updL o 0 v.toInt64))) PX0 := by
  refine CtrH.of hst pn_L_told (Nat.le_of_ble_eq_true rfl) (fun X hX hr hT => ?_)
  have hX : FX l K X cL_told RL 8 133 1 6 := hX
  show GW X 0 [some (.ref 0), some (.int p0), some (.int p1), some (.ref 61), none] [] h n 0 0
  refine g_aload_n hX dL_told_0 rfl rfl ?_
  refine g_iconst (v := (nI 0)) hX dL_told_1 (by decide) ?_
  refine g_aload_n hX dL_told_2 rfl rfl ?_
  refine g_iload_n hX dL_told_3 rfl rfl ?_
  refine g_iload_n hX dL_told_4 rfl rfl ?_
  refine g_callV (As := [.int p0, .int p1]) hX dL_told_5 cb_X3_told ml_L_36 im_X3_told se_X3_told rfl rfl (h0) ⟨_, rfl, rfl⟩ hc (Nat.le_of_ble_eq_true rfl) (Nat.le_of_ble_eq_true rfl) (by omega) (by omega) (Nat.le_of_ble_eq_true rfl) ?_ ?_
  · intro E h1 n1 hn1 hp
    obtain rfl := hx E h1 n1 hp
    refine g_catch (w := 2) (i := 4) hX hT [] (0, 10, 13, 13) [] rfl (fun z hz => by cases hz) (by decide) (by decide) xl_13 ca_IndexOutOfBoundsException (Or.inr ⟨dL_told_13, rfl⟩) (Nat.le_of_ble_eq_true rfl) rfl ?_
    refine g_iconst (v := nI 1) hX dL_told_15 (by decide) ?_
    refine g_ireturn hX hr dL_told_16 (by omega) (by omega) ?_
    exact Or.inl ⟨_, hp, ⟨rfl, rfl⟩⟩
  · intro rv h1 n1 hn1 hp
    obtain ⟨v, o, rfl, ho⟩ := h61 rv h1 n1 hp
    refine g_i2l hX dL_told_8 ?_
    refine g_lastore hX dL_told_9 ho 0 (by omega) rfl (by omega) ?_
    refine g_goto (tgt := 17) hX dL_told_10 (by decide) ?_
    refine g_iconst (v := nI 0) hX dL_told_17 (by decide) ?_
    refine g_ireturn hX hr dL_told_18 (by omega) (by omega) ?_
    exact Or.inr ⟨v, o, h1, hp, ho, rfl, rfl⟩
set_option maxRecDepth 20000 in
theorem kL_bell {l : Launch} {K : gw_K} (hst : l.stackTraces = false) {n : Nat} {h : gw_H} {p0 p1 p2 : Int32} {fs : List Value} {Post : Option Value → gw_H → Nat → Prop} {PX : String → gw_H → Nat → Prop} (h0 : h 0 = oB 3 fs) (hc : Ctr l K mX3_bell [.ref 0, .int p0, .int p1, .int p2] h n 1 6 Post PX) (h61 : ∀ rv h' n', Post rv h' n' → ∃ v o, rv = some (.int v) ∧ h' 61 = aJ 1 o) (hx : ∀ E h' n', PX E h' n' → (E = "java/lang/IndexOutOfBoundsException")) : CtrH l K mL_bell hhL_bell [.ref 0, .int p0, .int p1, .int p2, .ref 61] h n 1 6 (fun rv h' n' => (∃ E, PX E h' n' ∧ ((E = "java/lang/IndexOutOfBoundsException" ∧ rv = some (.int (nI 1))))) ∨ ∃ v o h2, Post (some (.int v)) h2 n' ∧ h2 61 = aJ 1 o ∧ rv = some (.int (nI 0)) ∧ h' = hs h2 61 (aJ 1 (vp_updL o 0 v.toInt64))) PX0 := by
  refine CtrH.of hst pn_L_bell (Nat.le_of_ble_eq_true rfl) (fun X hX hr hT => ?_)
  have hX : FX l K X cL_bell RL 9 156 1 6 := hX
  show GW X 0 [some (.ref 0), some (.int p0), some (.int p1), some (.int p2), some (.ref 61), none] [] h n 0 0
  refine g_aload hX dL_bell_0 rfl ?_
  refine g_iconst (v := (nI 0)) hX dL_bell_2 (by decide) ?_
  refine g_aload_n hX dL_bell_3 rfl rfl ?_
  refine g_iload_n hX dL_bell_4 rfl rfl ?_
  refine g_iload_n hX dL_bell_5 rfl rfl ?_
  refine g_iload_n hX dL_bell_6 rfl rfl ?_
  refine g_callV (As := [.int p0, .int p1, .int p2]) hX dL_bell_7 cb_X3_bell ml_L_39 im_X3_bell se_X3_bell rfl rfl (h0) ⟨_, rfl, rfl⟩ hc (Nat.le_of_ble_eq_true rfl) (Nat.le_of_ble_eq_true rfl) (by omega) (by omega) (Nat.le_of_ble_eq_true rfl) ?_ ?_
  · intro E h1 n1 hn1 hp
    obtain rfl := hx E h1 n1 hp
    refine g_catch (w := 2) (i := 5) hX hT [] (0, 12, 15, 13) [] rfl (fun z hz => by cases hz) (by decide) (by decide) xl_13 ca_IndexOutOfBoundsException (Or.inr ⟨dL_bell_15, rfl⟩) (Nat.le_of_ble_eq_true rfl) rfl ?_
    refine g_iconst (v := nI 1) hX dL_bell_17 (by decide) ?_
    refine g_ireturn hX hr dL_bell_18 (by omega) (by omega) ?_
    exact Or.inl ⟨_, hp, ⟨rfl, rfl⟩⟩
  · intro rv h1 n1 hn1 hp
    obtain ⟨v, o, rfl, ho⟩ := h61 rv h1 n1 hp
    refine g_i2l hX dL_bell_10 ?_
    refine g_lastore hX dL_bell_11 ho 0 (by omega) rfl (by omega) ?_
    refine g_goto (tgt := 19) hX dL_bell_12 (by decide) ?_
    refine g_iconst (v := nI 0) hX dL_bell_19 (by decide) ?_
    refine g_ireturn hX hr dL_bell_20 (by omega) (by omega) ?_
    exact Or.inr ⟨v, o, h1, hp, ho, rfl, rfl⟩
set_option maxRecDepth 20000 in
theorem kL_method {l : Launch} {K : gw_K} (hst : l.stackTraces = false) {n : Nat} {h : gw_H}  {fs : List Value} {Post : Option Value → gw_H → Nat → Prop} {PX : String → gw_H → Nat → Prop} (h0 : h 0 = oB 3 fs) (hc : Ctr l K mX3_method [.ref 0] h n 1 6 Post PX) (h61 : ∀ rv h' n', Post rv h' n' → ∃ v o, rv = some (.int v) ∧ h' 61 = aJ 1 o) (hx : ∀ E h' n', PX E h' n' → (E = "java/lang/IllegalStateException")) : CtrH l K mL_method hhL_method [.ref 0, .ref 61] h n 1 6 (fun rv h' n' => (∃ E, PX E h' n' ∧ ((E = "java/lang/IllegalStateException" ∧ rv = some (.int (nI 1))))) ∨ ∃ v o h2, Post (some (.int v)) h2 n' ∧ h2 61 = aJ 1 o ∧ rv = some (.int (nI 0)) ∧ h' = hs h2 61 (aJ 1 (vp_updL o 0 v.toInt64))) PX0 := by
  refine CtrH.of hst pn_L_method (Nat.le_of_ble_eq_true rfl) (fun X hX hr hT => ?_)
  have hX : FX l K X cL_method RL 7 110 1 6 := hX
  show GW X 0 [some (.ref 0), some (.ref 61), none] [] h n 0 0
  refine g_aload_n hX dL_method_0 rfl rfl ?_
  refine g_iconst (v := (nI 0)) hX dL_method_1 (by decide) ?_
  refine g_aload_n hX dL_method_2 rfl rfl ?_
  refine g_callV (As := []) hX dL_method_3 cb_X3_method ml_L_42 im_X3_method se_X3_method rfl rfl (h0) ⟨_, rfl, rfl⟩ hc (Nat.le_of_ble_eq_true rfl) (Nat.le_of_ble_eq_true rfl) (by omega) (by omega) (Nat.le_of_ble_eq_true rfl) ?_ ?_
  · intro E h1 n1 hn1 hp
    obtain rfl := hx E h1 n1 hp
    refine g_catch (w := 1) (i := 2) hX hT [] (0, 8, 11, 17) [] rfl (fun z hz => by cases hz) (by decide) (by decide) xl_17 ca_IllegalStateException (Or.inl ⟨2, rfl, dL_method_11, rfl⟩) (Nat.le_of_ble_eq_true rfl) rfl ?_
    refine g_iconst (v := nI 1) hX dL_method_12 (by decide) ?_
    refine g_ireturn hX hr dL_method_13 (by omega) (by omega) ?_
    exact Or.inl ⟨_, hp, ⟨rfl, rfl⟩⟩
  · intro rv h1 n1 hn1 hp
    obtain ⟨v, o, rfl, ho⟩ := h61 rv h1 n1 hp
    refine g_i2l hX dL_method_6 ?_
    refine g_lastore hX dL_method_7 ho 0 (by omega) rfl (by omega) ?_
    refine g_goto (tgt := 14) hX dL_method_8 (by decide) ?_
    refine g_iconst (v := nI 0) hX dL_method_14 (by decide) ?_
    refine g_ireturn hX hr dL_method_15 (by omega) (by omega) ?_
    exact Or.inr ⟨v, o, h1, hp, ho, rfl, rfl⟩
set_option maxRecDepth 20000 in
theorem kL_add {l : Launch} {K : gw_K} (hst : l.stackTraces = false) {n : Nat} {h : gw_H} {p0 p1 : Int32} {fs : List Value} {Post : Option Value → gw_H → Nat → Prop} {PX : String → gw_H → Nat → Prop} (h0 : h 0 = oB 3 fs) (hc : Ctr l K mX3_add [.ref 0, .int p0, .int p1] h n 1 6 Post PX) (h61 : ∀ rv h' n', Post rv h' n' → ∃ v o, rv = some (.int v) ∧ h' 61 = aJ 1 o) (hx : ∀ E h' n', PX E h' n' → (E = "java/lang/IndexOutOfBoundsException") ∨ (E = "java/lang/IllegalArgumentException") ∨ (E = "java/lang/IllegalStateException")) : CtrH l K mL_add hhL_add [.ref 0, .int p0, .int p1, .ref 61] h n 1 6 (fun rv h' n' => (∃ E, PX E h' n' ∧ ((E = "java/lang/IndexOutOfBoundsException" ∧ rv = some (.int (nI 1))) ∨ (E = "java/lang/IllegalArgumentException" ∧ rv = some (.int (nI 2))) ∨ (E = "java/lang/IllegalStateException" ∧ rv = some (.int (nI 3))))) ∨ ∃ v o h2, Post (some (.int v)) h2 n' ∧ h2 61 = aJ 1 o ∧ rv = some (.int (nI 0)) ∧ h' = hs h2 61 (aJ 1 (vp_updL o 0 v.toInt64))) PX0 := by
  refine CtrH.of hst pn_L_add (Nat.le_of_ble_eq_true rfl) (fun X hX hr hT => ?_)
  have hX : FX l K X cL_add RL 9 155 1 6 := hX
  show GW X 0 [some (.ref 0), some (.int p0), some (.int p1), some (.ref 61), none] [] h n 0 0
  refine g_aload_n hX dL_add_0 rfl rfl ?_
  refine g_iconst (v := (nI 0)) hX dL_add_1 (by decide) ?_
  refine g_aload_n hX dL_add_2 rfl rfl ?_
  refine g_iload_n hX dL_add_3 rfl rfl ?_
  refine g_iload_n hX dL_add_4 rfl rfl ?_
  refine g_callV (As := [.int p0, .int p1]) hX dL_add_5 cb_X3_add ml_L_46 im_X3_add se_X3_add rfl rfl (h0) ⟨_, rfl, rfl⟩ hc (Nat.le_of_ble_eq_true rfl) (Nat.le_of_ble_eq_true rfl) (by omega) (by omega) (Nat.le_of_ble_eq_true rfl) ?_ ?_
  · intro E h1 n1 hn1 hp
    rcases hx E h1 n1 hp with rfl | rfl | rfl
    · refine g_catch (w := 2) (i := 4) hX hT [] (0, 10, 13, 13) [(0, 10, 17, 15), (0, 10, 21, 17)] rfl (fun z hz => by cases hz) (by decide) (by decide) xl_13 ca_IndexOutOfBoundsException (Or.inr ⟨dL_add_13, rfl⟩) (Nat.le_of_ble_eq_true rfl) rfl ?_
      refine g_iconst (v := nI 1) hX dL_add_15 (by decide) ?_
      refine g_ireturn hX hr dL_add_16 (by omega) (by omega) ?_
      exact Or.inl ⟨_, hp, Or.inl ⟨rfl, rfl⟩⟩
    · refine g_catch (w := 2) (i := 4) hX hT [(0, 10, 13, 13)] (0, 10, 17, 15) [(0, 10, 21, 17)] rfl (fun z hz => by
          rcases (by simpa using hz : z = (0, 10, 13, 13)) with rfl
          · exact ⟨by decide, _, xl_13, by decide⟩) (by decide) (by decide) xl_15 ca_IllegalArgumentException (Or.inr ⟨dL_add_17, rfl⟩) (Nat.le_of_ble_eq_true rfl) rfl ?_
      refine g_iconst (v := nI 2) hX dL_add_19 (by decide) ?_
      refine g_ireturn hX hr dL_add_20 (by omega) (by omega) ?_
      exact Or.inl ⟨_, hp, Or.inr (Or.inl ⟨rfl, rfl⟩)⟩
    · refine g_catch (w := 2) (i := 4) hX hT [(0, 10, 13, 13), (0, 10, 17, 15)] (0, 10, 21, 17) [] rfl (fun z hz => by
          rcases (by simpa using hz : z = (0, 10, 13, 13) ∨ z = (0, 10, 17, 15)) with rfl | rfl
          · exact ⟨by decide, _, xl_13, by decide⟩
          · exact ⟨by decide, _, xl_15, by decide⟩) (by decide) (by decide) xl_17 ca_IllegalStateException (Or.inr ⟨dL_add_21, rfl⟩) (Nat.le_of_ble_eq_true rfl) rfl ?_
      refine g_iconst (v := nI 3) hX dL_add_23 (by decide) ?_
      refine g_ireturn hX hr dL_add_24 (by omega) (by omega) ?_
      exact Or.inl ⟨_, hp, Or.inr (Or.inr ⟨rfl, rfl⟩)⟩
  · intro rv h1 n1 hn1 hp
    obtain ⟨v, o, rfl, ho⟩ := h61 rv h1 n1 hp
    refine g_i2l hX dL_add_8 ?_
    refine g_lastore hX dL_add_9 ho 0 (by omega) rfl (by omega) ?_
    refine g_goto (tgt := 25) hX dL_add_10 (by decide) ?_
    refine g_iconst (v := nI 0) hX dL_add_25 (by decide) ?_
    refine g_ireturn hX hr dL_add_26 (by omega) (by omega) ?_
    exact Or.inr ⟨v, o, h1, hp, ho, rfl, rfl⟩
set_option maxRecDepth 20000 in
theorem kL_about {l : Launch} {K : gw_K} (hst : l.stackTraces = false) {n : Nat} {h : gw_H} {p0 p1 : Int32} {fs : List Value} {Post : Option Value → gw_H → Nat → Prop} {PX : String → gw_H → Nat → Prop} (h0 : h 0 = oB 3 fs) (hc : Ctr l K mX3_about [.ref 0, .int p0, .int p1] h n 1 6 Post PX) (h61 : ∀ rv h' n', Post rv h' n' → ∃ v o, rv = some (.int v) ∧ h' 61 = aJ 1 o) (hx : ∀ E h' n', PX E h' n' → (E = "java/lang/IndexOutOfBoundsException")) : CtrH l K mL_about hhL_about [.ref 0, .int p0, .int p1, .ref 61] h n 1 6 (fun rv h' n' => (∃ E, PX E h' n' ∧ ((E = "java/lang/IndexOutOfBoundsException" ∧ rv = some (.int (nI 1))))) ∨ ∃ v o h2, Post (some (.int v)) h2 n' ∧ h2 61 = aJ 1 o ∧ rv = some (.int (nI 0)) ∧ h' = hs h2 61 (aJ 1 (vp_updL o 0 v.toInt64))) PX0 := by
  refine CtrH.of hst pn_L_about (Nat.le_of_ble_eq_true rfl) (fun X hX hr hT => ?_)
  have hX : FX l K X cL_about RL 9 155 1 6 := hX
  show GW X 0 [some (.ref 0), some (.int p0), some (.int p1), some (.ref 61), none] [] h n 0 0
  refine g_aload_n hX dL_about_0 rfl rfl ?_
  refine g_iconst (v := (nI 0)) hX dL_about_1 (by decide) ?_
  refine g_aload_n hX dL_about_2 rfl rfl ?_
  refine g_iload_n hX dL_about_3 rfl rfl ?_
  refine g_iload_n hX dL_about_4 rfl rfl ?_
  refine g_callV (As := [.int p0, .int p1]) hX dL_about_5 cb_X3_about ml_L_49 im_X3_about se_X3_about rfl rfl (h0) ⟨_, rfl, rfl⟩ hc (Nat.le_of_ble_eq_true rfl) (Nat.le_of_ble_eq_true rfl) (by omega) (by omega) (Nat.le_of_ble_eq_true rfl) ?_ ?_
  · intro E h1 n1 hn1 hp
    obtain rfl := hx E h1 n1 hp
    refine g_catch (w := 2) (i := 4) hX hT [] (0, 10, 13, 13) [] rfl (fun z hz => by cases hz) (by decide) (by decide) xl_13 ca_IndexOutOfBoundsException (Or.inr ⟨dL_about_13, rfl⟩) (Nat.le_of_ble_eq_true rfl) rfl ?_
    refine g_iconst (v := nI 1) hX dL_about_15 (by decide) ?_
    refine g_ireturn hX hr dL_about_16 (by omega) (by omega) ?_
    exact Or.inl ⟨_, hp, ⟨rfl, rfl⟩⟩
  · intro rv h1 n1 hn1 hp
    obtain ⟨v, o, rfl, ho⟩ := h61 rv h1 n1 hp
    refine g_i2l hX dL_about_8 ?_
    refine g_lastore hX dL_about_9 ho 0 (by omega) rfl (by omega) ?_
    refine g_goto (tgt := 17) hX dL_about_10 (by decide) ?_
    refine g_iconst (v := nI 0) hX dL_about_17 (by decide) ?_
    refine g_ireturn hX hr dL_about_18 (by omega) (by omega) ?_
    exact Or.inr ⟨v, o, h1, hp, ho, rfl, rfl⟩
set_option maxRecDepth 20000 in
theorem kL_row {l : Launch} {K : gw_K} (hst : l.stackTraces = false) {n : Nat} {h : gw_H} {p0 p1 : Int32} {fs : List Value} {Post : Option Value → gw_H → Nat → Prop} {PX : String → gw_H → Nat → Prop} (h0 : h 0 = oB 3 fs) (hc : Ctr l K mX3_row [.ref 0, .int p0, .int p1] h n 1 6 Post PX) (h61 : ∀ rv h' n', Post rv h' n' → ∃ v o, rv = some (.int v) ∧ h' 61 = aJ 1 o) (hx : ∀ E h' n', PX E h' n' → (E = "java/lang/IndexOutOfBoundsException") ∨ (E = "java/lang/IllegalArgumentException") ∨ (E = "java/lang/IllegalStateException")) : CtrH l K mL_row hhL_row [.ref 0, .int p0, .int p1, .ref 61] h n 1 6 (fun rv h' n' => (∃ E, PX E h' n' ∧ ((E = "java/lang/IndexOutOfBoundsException" ∧ rv = some (.int (nI 1))) ∨ (E = "java/lang/IllegalArgumentException" ∧ rv = some (.int (nI 2))) ∨ (E = "java/lang/IllegalStateException" ∧ rv = some (.int (nI 3))))) ∨ ∃ v o h2, Post (some (.int v)) h2 n' ∧ h2 61 = aJ 1 o ∧ rv = some (.int (nI 0)) ∧ h' = hs h2 61 (aJ 1 (vp_updL o 0 v.toInt64))) PX0 := by
  refine CtrH.of hst pn_L_row (Nat.le_of_ble_eq_true rfl) (fun X hX hr hT => ?_)
  have hX : FX l K X cL_row RL 9 157 1 6 := hX
  show GW X 0 [some (.ref 0), some (.int p0), some (.int p1), some (.ref 61), none] [] h n 0 0
  refine g_aload_n hX dL_row_0 rfl rfl ?_
  refine g_iconst (v := (nI 0)) hX dL_row_1 (by decide) ?_
  refine g_aload_n hX dL_row_2 rfl rfl ?_
  refine g_iload_n hX dL_row_3 rfl rfl ?_
  refine g_iload_n hX dL_row_4 rfl rfl ?_
  refine g_callV (As := [.int p0, .int p1]) hX dL_row_5 cb_X3_row ml_L_52 im_X3_row se_X3_row rfl rfl (h0) ⟨_, rfl, rfl⟩ hc (Nat.le_of_ble_eq_true rfl) (Nat.le_of_ble_eq_true rfl) (by omega) (by omega) (Nat.le_of_ble_eq_true rfl) ?_ ?_
  · intro E h1 n1 hn1 hp
    rcases hx E h1 n1 hp with rfl | rfl | rfl
    · refine g_catch (w := 2) (i := 4) hX hT [] (0, 10, 13, 13) [(0, 10, 17, 15), (0, 10, 21, 17)] rfl (fun z hz => by cases hz) (by decide) (by decide) xl_13 ca_IndexOutOfBoundsException (Or.inr ⟨dL_row_13, rfl⟩) (Nat.le_of_ble_eq_true rfl) rfl ?_
      refine g_iconst (v := nI 1) hX dL_row_15 (by decide) ?_
      refine g_ireturn hX hr dL_row_16 (by omega) (by omega) ?_
      exact Or.inl ⟨_, hp, Or.inl ⟨rfl, rfl⟩⟩
    · refine g_catch (w := 2) (i := 4) hX hT [(0, 10, 13, 13)] (0, 10, 17, 15) [(0, 10, 21, 17)] rfl (fun z hz => by
          rcases (by simpa using hz : z = (0, 10, 13, 13)) with rfl
          · exact ⟨by decide, _, xl_13, by decide⟩) (by decide) (by decide) xl_15 ca_IllegalArgumentException (Or.inr ⟨dL_row_17, rfl⟩) (Nat.le_of_ble_eq_true rfl) rfl ?_
      refine g_iconst (v := nI 2) hX dL_row_19 (by decide) ?_
      refine g_ireturn hX hr dL_row_20 (by omega) (by omega) ?_
      exact Or.inl ⟨_, hp, Or.inr (Or.inl ⟨rfl, rfl⟩)⟩
    · refine g_catch (w := 2) (i := 4) hX hT [(0, 10, 13, 13), (0, 10, 17, 15)] (0, 10, 21, 17) [] rfl (fun z hz => by
          rcases (by simpa using hz : z = (0, 10, 13, 13) ∨ z = (0, 10, 17, 15)) with rfl | rfl
          · exact ⟨by decide, _, xl_13, by decide⟩
          · exact ⟨by decide, _, xl_15, by decide⟩) (by decide) (by decide) xl_17 ca_IllegalStateException (Or.inr ⟨dL_row_21, rfl⟩) (Nat.le_of_ble_eq_true rfl) rfl ?_
      refine g_iconst (v := nI 3) hX dL_row_23 (by decide) ?_
      refine g_ireturn hX hr dL_row_24 (by omega) (by omega) ?_
      exact Or.inl ⟨_, hp, Or.inr (Or.inr ⟨rfl, rfl⟩)⟩
  · intro rv h1 n1 hn1 hp
    obtain ⟨v, o, rfl, ho⟩ := h61 rv h1 n1 hp
    refine g_i2l hX dL_row_8 ?_
    refine g_lastore hX dL_row_9 ho 0 (by omega) rfl (by omega) ?_
    refine g_goto (tgt := 25) hX dL_row_10 (by decide) ?_
    refine g_iconst (v := nI 0) hX dL_row_25 (by decide) ?_
    refine g_ireturn hX hr dL_row_26 (by omega) (by omega) ?_
    exact Or.inr ⟨v, o, h1, hp, ho, rfl, rfl⟩
set_option maxRecDepth 20000 in
theorem kL_dodges {l : Launch} {K : gw_K} (hst : l.stackTraces = false) {n : Nat} {h : gw_H} {p0 p1 : Int32} {fs : List Value} {Post : Option Value → gw_H → Nat → Prop} {PX : String → gw_H → Nat → Prop} (h0 : h 0 = oB 3 fs) (hc : Ctr l K mX3_dodges [.ref 0, .int p0, .int p1] h n 1 6 Post PX) (h61 : ∀ rv h' n', Post rv h' n' → ∃ v o, rv = some (.int v) ∧ h' 61 = aJ 1 o) (hx : ∀ E h' n', PX E h' n' → (E = "java/lang/IndexOutOfBoundsException")) : CtrH l K mL_dodges hhL_dodges [.ref 0, .int p0, .int p1, .ref 61] h n 1 6 (fun rv h' n' => (∃ E, PX E h' n' ∧ ((E = "java/lang/IndexOutOfBoundsException" ∧ rv = some (.int (nI 1))))) ∨ ∃ v o h2, Post (some (.int v)) h2 n' ∧ h2 61 = aJ 1 o ∧ rv = some (.int (nI 0)) ∧ h' = hs h2 61 (aJ 1 (vp_updL o 0 v.toInt64))) PX0 := by
  refine CtrH.of hst pn_L_dodges (Nat.le_of_ble_eq_true rfl) (fun X hX hr hT => ?_)
  have hX : FX l K X cL_dodges RL 9 155 1 6 := hX
  show GW X 0 [some (.ref 0), some (.int p0), some (.int p1), some (.ref 61), none] [] h n 0 0
  refine g_aload_n hX dL_dodges_0 rfl rfl ?_
  refine g_iconst (v := (nI 0)) hX dL_dodges_1 (by decide) ?_
  refine g_aload_n hX dL_dodges_2 rfl rfl ?_
  refine g_iload_n hX dL_dodges_3 rfl rfl ?_
  refine g_iload_n hX dL_dodges_4 rfl rfl ?_
  refine g_callV (As := [.int p0, .int p1]) hX dL_dodges_5 cb_X3_dodges ml_L_55 im_X3_dodges se_X3_dodges rfl rfl (h0) ⟨_, rfl, rfl⟩ hc (Nat.le_of_ble_eq_true rfl) (Nat.le_of_ble_eq_true rfl) (by omega) (by omega) (Nat.le_of_ble_eq_true rfl) ?_ ?_
  · intro E h1 n1 hn1 hp
    obtain rfl := hx E h1 n1 hp
    refine g_catch (w := 2) (i := 4) hX hT [] (0, 10, 13, 13) [] rfl (fun z hz => by cases hz) (by decide) (by decide) xl_13 ca_IndexOutOfBoundsException (Or.inr ⟨dL_dodges_13, rfl⟩) (Nat.le_of_ble_eq_true rfl) rfl ?_
    refine g_iconst (v := nI 1) hX dL_dodges_15 (by decide) ?_
    refine g_ireturn hX hr dL_dodges_16 (by omega) (by omega) ?_
    exact Or.inl ⟨_, hp, ⟨rfl, rfl⟩⟩
  · intro rv h1 n1 hn1 hp
    obtain ⟨v, o, rfl, ho⟩ := h61 rv h1 n1 hp
    refine g_i2l hX dL_dodges_8 ?_
    refine g_lastore hX dL_dodges_9 ho 0 (by omega) rfl (by omega) ?_
    refine g_goto (tgt := 17) hX dL_dodges_10 (by decide) ?_
    refine g_iconst (v := nI 0) hX dL_dodges_17 (by decide) ?_
    refine g_ireturn hX hr dL_dodges_18 (by omega) (by omega) ?_
    exact Or.inr ⟨v, o, h1, hp, ho, rfl, rfl⟩
set_option maxRecDepth 20000 in
theorem kL_ring {l : Launch} {K : gw_K} (hst : l.stackTraces = false) {n : Nat} {h : gw_H} {p0 p1 p2 : Int32} {fs : List Value} {Post : Option Value → gw_H → Nat → Prop} {PX : String → gw_H → Nat → Prop} (h0 : h 0 = oB 3 fs) (hc : Ctr l K mX3_ring [.ref 0, .int p0, .int p1, .int p2] h n 1 6 Post PX) (h61 : ∀ rv h' n', Post rv h' n' → ∃ v o, rv = some (.int v) ∧ h' 61 = aJ 1 o) (hx : ∀ E h' n', PX E h' n' → (E = "java/lang/IndexOutOfBoundsException") ∨ (E = "java/lang/IllegalArgumentException") ∨ (E = "java/lang/IllegalStateException")) : CtrH l K mL_ring hhL_ring [.ref 0, .int p0, .int p1, .int p2, .ref 61] h n 1 6 (fun rv h' n' => (∃ E, PX E h' n' ∧ ((E = "java/lang/IndexOutOfBoundsException" ∧ rv = some (.int (nI 1))) ∨ (E = "java/lang/IllegalArgumentException" ∧ rv = some (.int (nI 2))) ∨ (E = "java/lang/IllegalStateException" ∧ rv = some (.int (nI 3))))) ∨ ∃ v o h2, Post (some (.int v)) h2 n' ∧ h2 61 = aJ 1 o ∧ rv = some (.int (nI 0)) ∧ h' = hs h2 61 (aJ 1 (vp_updL o 0 v.toInt64))) PX0 := by
  refine CtrH.of hst pn_L_ring (Nat.le_of_ble_eq_true rfl) (fun X hX hr hT => ?_)
  have hX : FX l K X cL_ring RL 9 157 1 6 := hX
  show GW X 0 [some (.ref 0), some (.int p0), some (.int p1), some (.int p2), some (.ref 61), none] [] h n 0 0
  refine g_aload hX dL_ring_0 rfl ?_
  refine g_iconst (v := (nI 0)) hX dL_ring_2 (by decide) ?_
  refine g_aload_n hX dL_ring_3 rfl rfl ?_
  refine g_iload_n hX dL_ring_4 rfl rfl ?_
  refine g_iload_n hX dL_ring_5 rfl rfl ?_
  refine g_iload_n hX dL_ring_6 rfl rfl ?_
  refine g_callV (As := [.int p0, .int p1, .int p2]) hX dL_ring_7 cb_X3_ring ml_L_58 im_X3_ring se_X3_ring rfl rfl (h0) ⟨_, rfl, rfl⟩ hc (Nat.le_of_ble_eq_true rfl) (Nat.le_of_ble_eq_true rfl) (by omega) (by omega) (Nat.le_of_ble_eq_true rfl) ?_ ?_
  · intro E h1 n1 hn1 hp
    rcases hx E h1 n1 hp with rfl | rfl | rfl
    · refine g_catch (w := 2) (i := 5) hX hT [] (0, 12, 15, 13) [(0, 12, 19, 15), (0, 12, 23, 17)] rfl (fun z hz => by cases hz) (by decide) (by decide) xl_13 ca_IndexOutOfBoundsException (Or.inr ⟨dL_ring_15, rfl⟩) (Nat.le_of_ble_eq_true rfl) rfl ?_
      refine g_iconst (v := nI 1) hX dL_ring_17 (by decide) ?_
      refine g_ireturn hX hr dL_ring_18 (by omega) (by omega) ?_
      exact Or.inl ⟨_, hp, Or.inl ⟨rfl, rfl⟩⟩
    · refine g_catch (w := 2) (i := 5) hX hT [(0, 12, 15, 13)] (0, 12, 19, 15) [(0, 12, 23, 17)] rfl (fun z hz => by
          rcases (by simpa using hz : z = (0, 12, 15, 13)) with rfl
          · exact ⟨by decide, _, xl_13, by decide⟩) (by decide) (by decide) xl_15 ca_IllegalArgumentException (Or.inr ⟨dL_ring_19, rfl⟩) (Nat.le_of_ble_eq_true rfl) rfl ?_
      refine g_iconst (v := nI 2) hX dL_ring_21 (by decide) ?_
      refine g_ireturn hX hr dL_ring_22 (by omega) (by omega) ?_
      exact Or.inl ⟨_, hp, Or.inr (Or.inl ⟨rfl, rfl⟩)⟩
    · refine g_catch (w := 2) (i := 5) hX hT [(0, 12, 15, 13), (0, 12, 19, 15)] (0, 12, 23, 17) [] rfl (fun z hz => by
          rcases (by simpa using hz : z = (0, 12, 15, 13) ∨ z = (0, 12, 19, 15)) with rfl | rfl
          · exact ⟨by decide, _, xl_13, by decide⟩
          · exact ⟨by decide, _, xl_15, by decide⟩) (by decide) (by decide) xl_17 ca_IllegalStateException (Or.inr ⟨dL_ring_23, rfl⟩) (Nat.le_of_ble_eq_true rfl) rfl ?_
      refine g_iconst (v := nI 3) hX dL_ring_25 (by decide) ?_
      refine g_ireturn hX hr dL_ring_26 (by omega) (by omega) ?_
      exact Or.inl ⟨_, hp, Or.inr (Or.inr ⟨rfl, rfl⟩)⟩
  · intro rv h1 n1 hn1 hp
    obtain ⟨v, o, rfl, ho⟩ := h61 rv h1 n1 hp
    refine g_i2l hX dL_ring_10 ?_
    refine g_lastore hX dL_ring_11 ho 0 (by omega) rfl (by omega) ?_
    refine g_goto (tgt := 27) hX dL_ring_12 (by decide) ?_
    refine g_iconst (v := nI 0) hX dL_ring_27 (by decide) ?_
    refine g_ireturn hX hr dL_ring_28 (by omega) (by omega) ?_
    exact Or.inr ⟨v, o, h1, hp, ho, rfl, rfl⟩
set_option maxRecDepth 20000 in
theorem kL_would {l : Launch} {K : gw_K} (hst : l.stackTraces = false) {n : Nat} {h : gw_H} {p0 p1 p2 : Int32} {fs : List Value} {Post : Option Value → gw_H → Nat → Prop} {PX : String → gw_H → Nat → Prop} (h0 : h 0 = oB 3 fs) (hc : Ctr l K mX3_would [.ref 0, .int p0, .int p1, .int p2] h n 1 6 Post PX) (h61 : ∀ rv h' n', Post rv h' n' → ∃ v o, rv = some (.int v) ∧ h' 61 = aJ 1 o) (hx : ∀ E h' n', PX E h' n' → (E = "java/lang/IndexOutOfBoundsException") ∨ (E = "java/lang/IllegalArgumentException")) : CtrH l K mL_would hhL_would [.ref 0, .int p0, .int p1, .int p2, .ref 61] h n 1 6 (fun rv h' n' => (∃ E, PX E h' n' ∧ ((E = "java/lang/IndexOutOfBoundsException" ∧ rv = some (.int (nI 1))) ∨ (E = "java/lang/IllegalArgumentException" ∧ rv = some (.int (nI 2))))) ∨ ∃ v o h2, Post (some (.int v)) h2 n' ∧ h2 61 = aJ 1 o ∧ rv = some (.int (nI 0)) ∧ h' = hs h2 61 (aJ 1 (vp_updL o 0 v.toInt64))) PX0 := by
  refine CtrH.of hst pn_L_would (Nat.le_of_ble_eq_true rfl) (fun X hX hr hT => ?_)
  have hX : FX l K X cL_would RL 9 156 1 6 := hX
  show GW X 0 [some (.ref 0), some (.int p0), some (.int p1), some (.int p2), some (.ref 61), none] [] h n 0 0
  refine g_aload hX dL_would_0 rfl ?_
  refine g_iconst (v := (nI 0)) hX dL_would_2 (by decide) ?_
  refine g_aload_n hX dL_would_3 rfl rfl ?_
  refine g_iload_n hX dL_would_4 rfl rfl ?_
  refine g_iload_n hX dL_would_5 rfl rfl ?_
  refine g_iload_n hX dL_would_6 rfl rfl ?_
  refine g_callV (As := [.int p0, .int p1, .int p2]) hX dL_would_7 cb_X3_would ml_L_61 im_X3_would se_X3_would rfl rfl (h0) ⟨_, rfl, rfl⟩ hc (Nat.le_of_ble_eq_true rfl) (Nat.le_of_ble_eq_true rfl) (by omega) (by omega) (Nat.le_of_ble_eq_true rfl) ?_ ?_
  · intro E h1 n1 hn1 hp
    rcases hx E h1 n1 hp with rfl | rfl
    · refine g_catch (w := 2) (i := 5) hX hT [] (0, 12, 15, 13) [(0, 12, 19, 15)] rfl (fun z hz => by cases hz) (by decide) (by decide) xl_13 ca_IndexOutOfBoundsException (Or.inr ⟨dL_would_15, rfl⟩) (Nat.le_of_ble_eq_true rfl) rfl ?_
      refine g_iconst (v := nI 1) hX dL_would_17 (by decide) ?_
      refine g_ireturn hX hr dL_would_18 (by omega) (by omega) ?_
      exact Or.inl ⟨_, hp, Or.inl ⟨rfl, rfl⟩⟩
    · refine g_catch (w := 2) (i := 5) hX hT [(0, 12, 15, 13)] (0, 12, 19, 15) [] rfl (fun z hz => by
          rcases (by simpa using hz : z = (0, 12, 15, 13)) with rfl
          · exact ⟨by decide, _, xl_13, by decide⟩) (by decide) (by decide) xl_15 ca_IllegalArgumentException (Or.inr ⟨dL_would_19, rfl⟩) (Nat.le_of_ble_eq_true rfl) rfl ?_
      refine g_iconst (v := nI 2) hX dL_would_21 (by decide) ?_
      refine g_ireturn hX hr dL_would_22 (by omega) (by omega) ?_
      exact Or.inl ⟨_, hp, Or.inr ⟨rfl, rfl⟩⟩
  · intro rv h1 n1 hn1 hp
    obtain ⟨v, o, rfl, ho⟩ := h61 rv h1 n1 hp
    refine g_i2l hX dL_would_10 ?_
    refine g_lastore hX dL_would_11 ho 0 (by omega) rfl (by omega) ?_
    refine g_goto (tgt := 23) hX dL_would_12 (by decide) ?_
    refine g_iconst (v := nI 0) hX dL_would_23 (by decide) ?_
    refine g_ireturn hX hr dL_would_24 (by omega) (by omega) ?_
    exact Or.inr ⟨v, o, h1, hp, ho, rfl, rfl⟩
set_option maxRecDepth 20000 in
theorem kL_advise {l : Launch} {K : gw_K} (hst : l.stackTraces = false) {n : Nat} {h : gw_H} {p0 : Int32} {fs : List Value} {Post : Option Value → gw_H → Nat → Prop} {PX : String → gw_H → Nat → Prop} (h0 : h 0 = oB 3 fs) (hc : Ctr l K mX3_advise [.ref 0, .int p0] h n 1 6 Post PX) (h61 : ∀ rv h' n', Post rv h' n' → ∃ v o, rv = some (.int v) ∧ h' 61 = aJ 1 o) (hx : ∀ E h' n', PX E h' n' → (E = "java/lang/IndexOutOfBoundsException")) : CtrH l K mL_advise hhL_advise [.ref 0, .int p0, .ref 61] h n 1 6 (fun rv h' n' => (∃ E, PX E h' n' ∧ ((E = "java/lang/IndexOutOfBoundsException" ∧ rv = some (.int (nI 1))))) ∨ ∃ v o h2, Post (some (.int v)) h2 n' ∧ h2 61 = aJ 1 o ∧ rv = some (.int (nI 0)) ∧ h' = hs h2 61 (aJ 1 (vp_updL o 0 v.toInt64))) PX0 := by
  refine CtrH.of hst pn_L_advise (Nat.le_of_ble_eq_true rfl) (fun X hX hr hT => ?_)
  have hX : FX l K X cL_advise RL 9 158 1 6 := hX
  show GW X 0 [some (.ref 0), some (.int p0), some (.ref 61), none] [] h n 0 0
  refine g_aload_n hX dL_advise_0 rfl rfl ?_
  refine g_iconst (v := (nI 0)) hX dL_advise_1 (by decide) ?_
  refine g_aload_n hX dL_advise_2 rfl rfl ?_
  refine g_iload_n hX dL_advise_3 rfl rfl ?_
  refine g_callV (As := [.int p0]) hX dL_advise_4 cb_X3_advise ml_L_64 im_X3_advise se_X3_advise rfl rfl (h0) ⟨_, rfl, rfl⟩ hc (Nat.le_of_ble_eq_true rfl) (Nat.le_of_ble_eq_true rfl) (by omega) (by omega) (Nat.le_of_ble_eq_true rfl) ?_ ?_
  · intro E h1 n1 hn1 hp
    obtain rfl := hx E h1 n1 hp
    refine g_catch (w := 1) (i := 3) hX hT [] (0, 9, 12, 13) [] rfl (fun z hz => by cases hz) (by decide) (by decide) xl_13 ca_IndexOutOfBoundsException (Or.inl ⟨3, rfl, dL_advise_12, rfl⟩) (Nat.le_of_ble_eq_true rfl) rfl ?_
    refine g_iconst (v := nI 1) hX dL_advise_13 (by decide) ?_
    refine g_ireturn hX hr dL_advise_14 (by omega) (by omega) ?_
    exact Or.inl ⟨_, hp, ⟨rfl, rfl⟩⟩
  · intro rv h1 n1 hn1 hp
    obtain ⟨v, o, rfl, ho⟩ := h61 rv h1 n1 hp
    refine g_i2l hX dL_advise_7 ?_
    refine g_lastore hX dL_advise_8 ho 0 (by omega) rfl (by omega) ?_
    refine g_goto (tgt := 15) hX dL_advise_9 (by decide) ?_
    refine g_iconst (v := nI 0) hX dL_advise_15 (by decide) ?_
    refine g_ireturn hX hr dL_advise_16 (by omega) (by omega) ?_
    exact Or.inr ⟨v, o, h1, hp, ho, rfl, rfl⟩
set_option maxRecDepth 20000 in
theorem kL_count {l : Launch} {K : gw_K} (hst : l.stackTraces = false) {n : Nat} {h : gw_H} {p0 : Int32} {fs : List Value} {Post : Option Value → gw_H → Nat → Prop} {PX : String → gw_H → Nat → Prop} (h0 : h 0 = oB 3 fs) (hc : Ctr l K mX3_count [.ref 0, .int p0] h n 1 6 Post PX) (h61 : ∀ rv h' n', Post rv h' n' → ∃ v o, rv = some (.int v) ∧ h' 61 = aJ 1 o) (hx : ∀ E h' n', PX E h' n' → (E = "java/lang/IndexOutOfBoundsException")) : CtrH l K mL_count hhL_count [.ref 0, .int p0, .ref 61] h n 1 6 (fun rv h' n' => (∃ E, PX E h' n' ∧ ((E = "java/lang/IndexOutOfBoundsException" ∧ rv = some (.int (nI 1))))) ∨ ∃ v o h2, Post (some (.int v)) h2 n' ∧ h2 61 = aJ 1 o ∧ rv = some (.int (nI 0)) ∧ h' = hs h2 61 (aJ 1 (vp_updL o 0 v.toInt64))) PX0 := by
  refine CtrH.of hst pn_L_count (Nat.le_of_ble_eq_true rfl) (fun X hX hr hT => ?_)
  have hX : FX l K X cL_count RL 8 132 1 6 := hX
  show GW X 0 [some (.ref 0), some (.int p0), some (.ref 61), none] [] h n 0 0
  refine g_aload_n hX dL_count_0 rfl rfl ?_
  refine g_iconst (v := (nI 0)) hX dL_count_1 (by decide) ?_
  refine g_aload_n hX dL_count_2 rfl rfl ?_
  refine g_iload_n hX dL_count_3 rfl rfl ?_
  refine g_callV (As := [.int p0]) hX dL_count_4 cb_X3_count ml_L_67 im_X3_count se_X3_count rfl rfl (h0) ⟨_, rfl, rfl⟩ hc (Nat.le_of_ble_eq_true rfl) (Nat.le_of_ble_eq_true rfl) (by omega) (by omega) (Nat.le_of_ble_eq_true rfl) ?_ ?_
  · intro E h1 n1 hn1 hp
    obtain rfl := hx E h1 n1 hp
    refine g_catch (w := 1) (i := 3) hX hT [] (0, 9, 12, 13) [] rfl (fun z hz => by cases hz) (by decide) (by decide) xl_13 ca_IndexOutOfBoundsException (Or.inl ⟨3, rfl, dL_count_12, rfl⟩) (Nat.le_of_ble_eq_true rfl) rfl ?_
    refine g_iconst (v := nI 1) hX dL_count_13 (by decide) ?_
    refine g_ireturn hX hr dL_count_14 (by omega) (by omega) ?_
    exact Or.inl ⟨_, hp, ⟨rfl, rfl⟩⟩
  · intro rv h1 n1 hn1 hp
    obtain ⟨v, o, rfl, ho⟩ := h61 rv h1 n1 hp
    refine g_i2l hX dL_count_7 ?_
    refine g_lastore hX dL_count_8 ho 0 (by omega) rfl (by omega) ?_
    refine g_goto (tgt := 15) hX dL_count_9 (by decide) ?_
    refine g_iconst (v := nI 0) hX dL_count_15 (by decide) ?_
    refine g_ireturn hX hr dL_count_16 (by omega) (by omega) ?_
    exact Or.inr ⟨v, o, h1, hp, ho, rfl, rfl⟩
set_option maxRecDepth 20000 in
theorem kL_pass {l : Launch} {K : gw_K} (hst : l.stackTraces = false) {n : Nat} {h : gw_H} {p0 : Int32} {fs : List Value} {Post : Option Value → gw_H → Nat → Prop} {PX : String → gw_H → Nat → Prop} (h0 : h 0 = oB 3 fs) (hc : Ctr l K mX3_pass [.ref 0, .int p0] h n 1 6 Post PX) (h61 : ∀ rv h' n', Post rv h' n' → ∃ v o, rv = some (.int v) ∧ h' 61 = aJ 1 o) (hx : ∀ E h' n', PX E h' n' → (E = "java/lang/IllegalArgumentException")) : CtrH l K mL_pass hhL_pass [.ref 0, .int p0, .ref 61] h n 1 6 (fun rv h' n' => (∃ E, PX E h' n' ∧ ((E = "java/lang/IllegalArgumentException" ∧ rv = some (.int (nI 1))))) ∨ ∃ v o h2, Post (some (.int v)) h2 n' ∧ h2 61 = aJ 1 o ∧ rv = some (.int (nI 0)) ∧ h' = hs h2 61 (aJ 1 (vp_updL o 0 v.toInt64))) PX0 := by
  refine CtrH.of hst pn_L_pass (Nat.le_of_ble_eq_true rfl) (fun X hX hr hT => ?_)
  have hX : FX l K X cL_pass RL 8 133 1 6 := hX
  show GW X 0 [some (.ref 0), some (.int p0), some (.ref 61), none] [] h n 0 0
  refine g_aload_n hX dL_pass_0 rfl rfl ?_
  refine g_iconst (v := (nI 0)) hX dL_pass_1 (by decide) ?_
  refine g_aload_n hX dL_pass_2 rfl rfl ?_
  refine g_iload_n hX dL_pass_3 rfl rfl ?_
  refine g_callV (As := [.int p0]) hX dL_pass_4 cb_X3_pass ml_L_70 im_X3_pass se_X3_pass rfl rfl (h0) ⟨_, rfl, rfl⟩ hc (Nat.le_of_ble_eq_true rfl) (Nat.le_of_ble_eq_true rfl) (by omega) (by omega) (Nat.le_of_ble_eq_true rfl) ?_ ?_
  · intro E h1 n1 hn1 hp
    obtain rfl := hx E h1 n1 hp
    refine g_catch (w := 1) (i := 3) hX hT [] (0, 9, 12, 15) [] rfl (fun z hz => by cases hz) (by decide) (by decide) xl_15 ca_IllegalArgumentException (Or.inl ⟨3, rfl, dL_pass_12, rfl⟩) (Nat.le_of_ble_eq_true rfl) rfl ?_
    refine g_iconst (v := nI 1) hX dL_pass_13 (by decide) ?_
    refine g_ireturn hX hr dL_pass_14 (by omega) (by omega) ?_
    exact Or.inl ⟨_, hp, ⟨rfl, rfl⟩⟩
  · intro rv h1 n1 hn1 hp
    obtain ⟨v, o, rfl, ho⟩ := h61 rv h1 n1 hp
    refine g_i2l hX dL_pass_7 ?_
    refine g_lastore hX dL_pass_8 ho 0 (by omega) rfl (by omega) ?_
    refine g_goto (tgt := 15) hX dL_pass_9 (by decide) ?_
    refine g_iconst (v := nI 0) hX dL_pass_15 (by decide) ?_
    refine g_ireturn hX hr dL_pass_16 (by omega) (by omega) ?_
    exact Or.inr ⟨v, o, h1, hp, ho, rfl, rfl⟩
set_option maxRecDepth 20000 in
theorem kL_foresee {l : Launch} {K : gw_K} (hst : l.stackTraces = false) {n : Nat} {h : gw_H} {p0 p1 p2 : Int32} {fs : List Value} {Post : Option Value → gw_H → Nat → Prop} {PX : String → gw_H → Nat → Prop} (h0 : h 0 = oB 3 fs) (hc : Ctr l K mX3_foresee [.ref 0, .int p0, .int p1, .int p2] h n 1 6 Post PX) (h61 : ∀ rv h' n', Post rv h' n' → ∃ v o, rv = some (.int v) ∧ h' 61 = aJ 1 o) (hx : ∀ E h' n', PX E h' n' → (E = "java/lang/IndexOutOfBoundsException") ∨ (E = "java/lang/IllegalArgumentException")) : CtrH l K mL_foresee hhL_foresee [.ref 0, .int p0, .int p1, .int p2, .ref 61] h n 1 6 (fun rv h' n' => (∃ E, PX E h' n' ∧ ((E = "java/lang/IndexOutOfBoundsException" ∧ rv = some (.int (nI 1))) ∨ (E = "java/lang/IllegalArgumentException" ∧ rv = some (.int (nI 2))))) ∨ ∃ v o h2, Post (some (.int v)) h2 n' ∧ h2 61 = aJ 1 o ∧ rv = some (.int (nI 0)) ∧ h' = hs h2 61 (aJ 1 (vp_updL o 0 v.toInt64))) PX0 := by
  refine CtrH.of hst pn_L_foresee (Nat.le_of_ble_eq_true rfl) (fun X hX hr hT => ?_)
  have hX : FX l K X cL_foresee RL 8 135 1 6 := hX
  show GW X 0 [some (.ref 0), some (.int p0), some (.int p1), some (.int p2), some (.ref 61), none] [] h n 0 0
  refine g_aload hX dL_foresee_0 rfl ?_
  refine g_iconst (v := (nI 0)) hX dL_foresee_2 (by decide) ?_
  refine g_aload_n hX dL_foresee_3 rfl rfl ?_
  refine g_iload_n hX dL_foresee_4 rfl rfl ?_
  refine g_iload_n hX dL_foresee_5 rfl rfl ?_
  refine g_iload_n hX dL_foresee_6 rfl rfl ?_
  refine g_callV (As := [.int p0, .int p1, .int p2]) hX dL_foresee_7 cb_X3_foresee ml_L_73 im_X3_foresee se_X3_foresee rfl rfl (h0) ⟨_, rfl, rfl⟩ hc (Nat.le_of_ble_eq_true rfl) (Nat.le_of_ble_eq_true rfl) (by omega) (by omega) (Nat.le_of_ble_eq_true rfl) ?_ ?_
  · intro E h1 n1 hn1 hp
    rcases hx E h1 n1 hp with rfl | rfl
    · refine g_catch (w := 2) (i := 5) hX hT [] (0, 12, 15, 13) [(0, 12, 19, 15)] rfl (fun z hz => by cases hz) (by decide) (by decide) xl_13 ca_IndexOutOfBoundsException (Or.inr ⟨dL_foresee_15, rfl⟩) (Nat.le_of_ble_eq_true rfl) rfl ?_
      refine g_iconst (v := nI 1) hX dL_foresee_17 (by decide) ?_
      refine g_ireturn hX hr dL_foresee_18 (by omega) (by omega) ?_
      exact Or.inl ⟨_, hp, Or.inl ⟨rfl, rfl⟩⟩
    · refine g_catch (w := 2) (i := 5) hX hT [(0, 12, 15, 13)] (0, 12, 19, 15) [] rfl (fun z hz => by
          rcases (by simpa using hz : z = (0, 12, 15, 13)) with rfl
          · exact ⟨by decide, _, xl_13, by decide⟩) (by decide) (by decide) xl_15 ca_IllegalArgumentException (Or.inr ⟨dL_foresee_19, rfl⟩) (Nat.le_of_ble_eq_true rfl) rfl ?_
      refine g_iconst (v := nI 2) hX dL_foresee_21 (by decide) ?_
      refine g_ireturn hX hr dL_foresee_22 (by omega) (by omega) ?_
      exact Or.inl ⟨_, hp, Or.inr ⟨rfl, rfl⟩⟩
  · intro rv h1 n1 hn1 hp
    obtain ⟨v, o, rfl, ho⟩ := h61 rv h1 n1 hp
    refine g_i2l hX dL_foresee_10 ?_
    refine g_lastore hX dL_foresee_11 ho 0 (by omega) rfl (by omega) ?_
    refine g_goto (tgt := 23) hX dL_foresee_12 (by decide) ?_
    refine g_iconst (v := nI 0) hX dL_foresee_23 (by decide) ?_
    refine g_ireturn hX hr dL_foresee_24 (by omega) (by omega) ?_
    exact Or.inr ⟨v, o, h1, hp, ho, rfl, rfl⟩
