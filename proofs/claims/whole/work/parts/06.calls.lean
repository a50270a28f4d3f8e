theorem gw_P.blind {K : gw_K} {ad : Nat → Nat} {n sz : Nat} {As : List Value} {h : gw_H} : FrameBlind (gw_P K ad n As h sz) := fun a U g mk q => by
  obtain ⟨q1, q2, q3, q4, q5, q6, q7⟩ := q
  exact ⟨q1, q2, q3, q4, va_K.moved (u := U) (U := U.calling g mk a) (Vm.Alike.refl U.vm) q5, gw_S.same (s := U) (U := U.calling g mk a) rfl q6, gw_Z.moved (u := U) (U := U.calling g mk a) (Vm.Alike.refl U.vm) q7⟩
/-- what the callee finds at its start -/
theorem gw_pre {K : gw_K} {ad : Nat → Nat} {n : Nat} {As : List Value} {h : gw_H} {A : Nat → Prop} {s : State} {H : Heap} {locs : List Loc} (hR : gw_R K ad n h A H) (hS : va_S A s.heap H locs) (hA : ∀ q, s.heap.size ≤ q → A q) (hK : va_K K.1 vwCl (gw_tys K) s) (hsp : gw_S s) (hz : gw_Z A s s.heap) (hok : ∀ v ∈ As, gw_ok n v) :
    ∀ U : State, U.heap = H → s.WarmedH U.vm → gw_P K ad n As h H.size (As.map (gw_V ad)).toArray U := fun U hU hW => by
  have hsub : ∀ q, gw_fr ad n H.size q → A q := fun q hq => by
    rcases hq with ⟨k, hk, rfl⟩ | hq
    · exact hR.2.1.2 k _ (gw_ws_at hk)
    · exact hA q (Nat.le_trans hS.1 hq)
  refine ⟨rfl, by rw [hU], by rw [hU]; exact hR.weaken fun _ _ _ => trivial, hok, va_K.moved hW.alike hK, gw_S.warm hW hsp, ?_⟩
  have h1 : gw_Z (gw_fr ad n H.size) s H := (hz.kept fun a ha hn => hS.2.1 a ha hn).narrow hsub
  rw [hU]
  exact gw_Z.moved hW.alike h1
/-- behind a call -/
theorem gw_run {p : Program} {l : Launch} {e : Env} {R : Room} {s : State} {m : MethodId} {args : Array Value} {below : List Frame} {meth : Method} {c : Code} {A : Nat → Prop} {Q : State → Prop} {K : gw_K} {ad0 : Nat → Nat} {n0 pc n kc ks mc ms : Nat} {L : List (Option Value)} {S : List Value} {h : gw_H} {ad : Nat → Nat} {H : Heap} {locs : List Loc} {ls : Array Slot} {st0 : List Value} {aa : Array Value} {Post : Option Value → gw_H → Nat → Prop} {PX : String → gw_H → Nat → Prop}
    (hr : vx_Run p l e R s m args below meth c H locs kc ks mc ms (F0 m pc ls st0) (S.map (gw_V ad)) (gw_Q K ad n H.size Post aa) (gw_XC K ad n H.size PX) (gw_fr ad n H.size))
    (hR : gw_R K ad n h A H) (hS : va_S A s.heap H locs) (hA : ∀ q, s.heap.size ≤ q → A q) (ha : ∀ k, k < n0 → ad k = ad0 k) (hn : n0 ≤ n) (hL : gw_L ad n c.maxLocals ls L) (hv : ∀ v ∈ S, gw_ok n v)
    (kk : ∀ (rv : Option Value) (h' : gw_H) (n' : Nat), n ≤ n' → Post rv h' n' → GW (p, l, e, R, s, m, args, below, meth, c, A, Q, K, ad0, n0) (pc + 3) L (rv.toList ++ S) h' n' (kc + mc) (ks + ms))
    (kx : ∀ (E : String) (h' : gw_H) (n' : Nat), n ≤ n' → PX E h' n' → GX (p, l, e, R, s, m, args, below, meth, c, A, Q, K, ad0, n0) pc L E h' n' (kc + mc) (ks + ms)) :
    W p l e R s m args below meth c H locs kc ks Q (F0 m pc ls st0) := by
  have hsub : ∀ q, gw_fr ad n H.size q → A q := fun q hq => by
    rcases hq with ⟨k, hk, rfl⟩ | hq
    · exact hR.2.1.2 k _ (gw_ws_at hk)
    · exact hA q (Nat.le_trans hS.1 hq)
  intro T hT X
  rcases hr T hT X with ⟨v, st₀, t, T', L1, h0, X', hL1, e1, e2, ⟨⟨rv, h', n', ad', hrv, hp, had, hn', hR', hok⟩, hF⟩, st⟩ | ⟨q, st₀, t, T', L1, E, ce, h0, X', hL1, e1, e2, ⟨⟨h', n', ad', hp, had, hn', hR'⟩, hF⟩, hce, hcv, hcl, st⟩
  · cases hrv
    obtain ⟨k1, k2, k3⟩ := vx_keep h0 e1 hS (fun q _ hq => hsub q hq) hsub hL1 hF
    have hg := kk rv h' n' hn' hp ad' T'.heap (locs ++ L1) ls (by rw [e1]; exact hR'.weaken fun k hk hq => hsub _ hq) k3 (fun k hk => by rw [had k (by omega)]; exact ha k hk) (by omega) (hL.ad had hn') (fun w hw => by
      rcases List.mem_append.mp hw with hw | hw
      · exact hok w (by cases rv with
          | none => cases hw
          | some x => simp at hw; rw [hw])
      · exact gw_ok_up hn' (hv w hw))
    have e3 : (rv.toList ++ S).map (gw_V ad') = (rv.map (gw_V ad')).toList ++ S.map (gw_V ad) := by
      rw [List.map_append, gw_map_ad had hv]
      cases rv <;> rfl
    rw [e3] at hg
    obtain ⟨t2, a1, b1⟩ := hg T' rfl X'
    exact ⟨t2, st t2 a1, b1⟩
  · obtain ⟨k1, k2, k3⟩ := vx_keep h0 e1 hS (fun q _ hq => hsub q hq) hsub hL1 hF
    have hg := kx E h' n' hn' hp ad' T'.heap (locs ++ L1) ls q ce (S.map (gw_V ad)) (by rw [e1]; exact hR'.weaken fun k hk hq => hsub _ hq) k3 (fun k hk => by rw [had k (by omega)]; exact ha k hk) (by omega) (hL.ad had hn') (by rw [e1]; exact hce) hcv hcl
    obtain ⟨t2, a1, b1⟩ := hg T' rfl X'
    exact ⟨t2, st.trans a1, b1⟩
/-- what the tables say of a method that is called by entry idx of own's pool -/
def CLb (M : gw_M) (np : Nat) : Prop := Cond.code M.1 M.2.1 M.2.2.1 M.2.2.2.1 ∈ lw_tbl ∧ Cond.initialized M.1.cls ∈ lw_tbl ∧ (M.1.cls ≠ "java/lang/invoke/MethodHandle" ∧ M.1.cls ≠ "java/lang/invoke/VarHandle") ∧ (parseMethodDescriptor M.1.desc).map (fun d => d.parameters.length) = some np
theorem gw_good {s : State} {args : Array Value} {M : gw_M} (hts : ∀ w ∈ lw_tbl, goodWord w = true → w.before args s = true) (hc : Cond.code M.1 M.2.1 M.2.2.1 M.2.2.2.1 ∈ lw_tbl) : ∀ w ∈ gw_w M, ∀ (a' : Array Value) (U : State), s.WarmedH U.vm → w.before a' U = true := fun w hw a' U hW => by
  rcases List.mem_cons.mp hw with rfl | hw
  · exact word_at hW (good_of_word rfl) (hts _ hc rfl)
  · obtain ⟨h1, h2⟩ := List.mem_filter.mp hw
    exact word_at hW (good_of_word h2) (hts w h1 h2)
theorem gw_cb {R : Room} {s : State} {args : Array Value} {own : String} {idx : Nat} {M : gw_M} {np mc ms : Nat} (hts : ∀ w ∈ lw_tbl, goodWord w = true → w.before args s = true) (hM : CLb M np) (hl : (Cond.methodLink own idx M.1).before args s = true) (hF : M.2.2.2.2.1 + 1 ≤ R.frames) (hLo : 8 + (M.2.2.1 + 11) + M.2.2.2.2.2 ≤ R.locals) :
    CallB R s args own idx M.1 M.2.1 M.2.2.1 M.2.2.2.1 (gw_w M) { frames := M.2.2.2.2.1, cells := mc, slots := ms, locals := M.2.2.2.2.2 } mc ms np := by
  obtain ⟨h1, h2, h3, h4⟩ := hM
  refine ⟨rfl, rfl, hF, hLo, gw_good hts h1, List.mem_cons_self, hts _ h1 rfl, hts _ h2 rfl, h3, fun sig hs => ?_, hl⟩
  rw [hs] at h4
  exact (Option.some.inj h4).symm

theorem g_callV {l : Launch} {K : gw_K} {X : gw_X} {cc : ByteArray} {own : String} {F Lo MC MS pc : Nat} {L : List (Option Value)} {S S0 : List Value} {h : gw_H} {n kc ks : Nat} {M : gw_M} {idx np mc ms : Nat} {Post : Option Value → gw_H → Nat → Prop} {PX : String → gw_H → Nat → Prop} {As : List Value} {b ci : Nat} {fs : List Value}  (hX : FX l K X cc own F Lo MC MS) (hd : decode cc pc = .ok (.invokevirtual idx, 3)) (hM : CLb M np) (hl : Cond.methodLink own idx M.1 ∈ lw_tbl) (hi : Cond.instanceMethod M.1 ∈ lw_tbl) (hsel : Cond.selects M.1.cls M.1 M.1 ∈ lw_tbl) (hnp : As.length = np) (hS0 : S0 = As.reverse ++ .ref b :: S) (ho : h b = oB ci fs) (hci : ∃ r, vwCl[ci]? = some r ∧ r.1 = M.1.cls) (hctr : Ctr l K M (.ref b :: As) h n mc ms Post PX) (hF : M.2.2.2.2.1 + 1 ≤ F) (hLo : 8 + (M.2.2.1 + 11) + M.2.2.2.2.2 ≤ Lo) (hC : kc + mc ≤ MC) (hCs : ks + ms ≤ MS) (hst8 : (S.map fun v => v.category).sum ≤ 8) (kx : ∀ (E : String) (h' : gw_H) (n' : Nat), n ≤ n' → PX E h' n' → GX X pc L E h' n' (kc + mc) (ks + ms)) (kk : ∀ (rv : Option Value) (h' : gw_H) (n' : Nat), n ≤ n' → Post rv h' n' → GW X (pc + 3) L (rv.toList ++ S) h' n' (kc + mc) (ks + ms)) : GW X pc L S0 h n kc ks := by
  obtain ⟨p, l1, e, R, s, m, args, below, meth, c, A, Q, K1, ad0, n0⟩ := X
  obtain ⟨hx, hb, hown, hts, hK, hA, hsp, hz, rfl, rfl, rfl, hst, hlk⟩ := hX
  intro ad H locs ls hR hS ha hn hL hv
  have hbn : b < n := hv _ (by rw [hS0]; exact List.mem_append_right _ List.mem_cons_self) b rfl
  have hokA : ∀ v ∈ (.ref b :: As), gw_ok n v := gw_cs (gw_ref hbn) fun v hvv => hv v (by rw [hS0]; exact List.mem_append_left _ (List.mem_reverse.mpr hvv))
  have hokS : ∀ v ∈ S, gw_ok n v := fun v hvv => hv v (by rw [hS0]; exact List.mem_append_right _ (List.mem_cons_of_mem _ hvv))
  obtain ⟨r, hr1, hr2⟩ := hci
  have hrecv := va_recv hK hR.1 hr1 (gw_at (K := K1) (ad := ad) hbn ho)
  rw [hr2] at hrecv
  have hpre := gw_pre hR hS hA hK hsp hz hokA
  have hstk : S0.map (gw_V ad) = (As.map (gw_V ad)).reverse ++ .ref (ad b) :: S.map (gw_V ad) := by rw [hS0, List.map_append, List.map_reverse]; rfl
  refine gw_run (L := L) (S := S) (vx_runV (As := As.map (gw_V ad)) ⟨hx, hb, rfl, hown, vx_n⟩ (hctr ad H.size) ⟨gw_cb hts hM (hts _ hl rfl) hF hLo, hts _ hi rfl, hts _ hsel rfl⟩ ⟨gw_P.blind, hrecv, hpre⟩ rfl (by rw [List.length_map]; exact hnp) hL.1 hstk (by show 2 * 0 + ((S.map (gw_V ad)).map fun v => v.category).sum ≤ 8; rw [gw_cats]; omega) hd ⟨hC, hCs⟩) hR hS hA ha hn hL hokS kk kx
theorem g_callS {l : Launch} {K : gw_K} {X : gw_X} {cc : ByteArray} {own : String} {F Lo MC MS pc : Nat} {L : List (Option Value)} {S S0 : List Value} {h : gw_H} {n kc ks : Nat} {M : gw_M} {idx np mc ms : Nat} {Post : Option Value → gw_H → Nat → Prop} {PX : String → gw_H → Nat → Prop} {As : List Value} (hX : FX l K X cc own F Lo MC MS) (hd : decode cc pc = .ok (.invokestatic idx, 3)) (hM : CLb M np) (hl : Cond.methodLink own idx M.1 ∈ lw_tbl) (hi : Cond.static M.1 ∈ lw_tbl) (hnp : As.length = np) (hS0 : S0 = As.reverse ++ S) (hctr : Ctr l K M As h n mc ms Post PX) (hF : M.2.2.2.2.1 + 1 ≤ F) (hLo : 8 + (M.2.2.1 + 11) + M.2.2.2.2.2 ≤ Lo) (hC : kc + mc ≤ MC) (hCs : ks + ms ≤ MS) (hst8 : (S.map fun v => v.category).sum ≤ 8) (kx : ∀ (E : String) (h' : gw_H) (n' : Nat), n ≤ n' → PX E h' n' → GX X pc L E h' n' (kc + mc) (ks + ms)) (kk : ∀ (rv : Option Value) (h' : gw_H) (n' : Nat), n ≤ n' → Post rv h' n' → GW X (pc + 3) L (rv.toList ++ S) h' n' (kc + mc) (ks + ms)) : GW X pc L S0 h n kc ks := by
  obtain ⟨p, l1, e, R, s, m, args, below, meth, c, A, Q, K1, ad0, n0⟩ := X
  obtain ⟨hx, hb, hown, hts, hK, hA, hsp, hz, rfl, rfl, rfl, hst, hlk⟩ := hX
  intro ad H locs ls hR hS ha hn hL hv
  have hokA : ∀ v ∈ As, gw_ok n v := fun v hvv => hv v (by rw [hS0]; exact List.mem_append_left _ (List.mem_reverse.mpr hvv))
  have hokS : ∀ v ∈ S, gw_ok n v := fun v hvv => hv v (by rw [hS0]; exact List.mem_append_right _ hvv)
  have hpre := gw_pre hR hS hA hK hsp hz hokA
  have hstk : S0.map (gw_V ad) = (As.map (gw_V ad)).reverse ++ S.map (gw_V ad) := by rw [hS0, List.map_append, List.map_reverse]
  refine gw_run (L := L) (S := S) (vx_runS (As := As.map (gw_V ad)) ⟨hx, hb, rfl, hown, vx_n⟩ (hctr ad H.size) ⟨gw_cb hts hM (hts _ hl rfl) hF hLo, hts _ hi rfl⟩ ⟨gw_P.blind, hpre⟩ rfl (by rw [List.length_map]; exact hnp) hL.1 hstk (by show 2 * 0 + ((S.map (gw_V ad)).map fun v => v.category).sum ≤ 8; rw [gw_cats]; omega) hd ⟨hC, hCs⟩) hR hS hA ha hn hL hokS kk kx
theorem g_callI {l : Launch} {K : gw_K} {X : gw_X} {cc : ByteArray} {own : String} {F Lo MC MS pc : Nat} {L : List (Option Value)} {S S0 : List Value} {h : gw_H} {n kc ks : Nat} {M : gw_M} {idx np mc ms : Nat} {Post : Option Value → gw_H → Nat → Prop} {PX : String → gw_H → Nat → Prop} {As : List Value} {b : Nat} (hX : FX l K X cc own F Lo MC MS) (hd : decode cc pc = .ok (.invokespecial idx, 3)) (hM : CLb M np) (hl : Cond.methodLink own idx M.1 ∈ lw_tbl) (hi : Cond.instanceMethod M.1 ∈ lw_tbl) (hret : M.2.2.2.1 = none) (hnm : M.1.name = "<init>") (hnp : As.length = np) (hS0 : S0 = As.reverse ++ .ref b :: S) (hctr : Ctr l K M (.ref b :: As) h n mc ms Post PX) (hF : M.2.2.2.2.1 + 1 ≤ F) (hLo : 8 + (M.2.2.1 + 11) + M.2.2.2.2.2 ≤ Lo) (hC : kc + mc ≤ MC) (hCs : ks + ms ≤ MS) (hst8 : (S.map fun v => v.category).sum ≤ 8) (kx : ∀ (E : String) (h' : gw_H) (n' : Nat), n ≤ n' → PX E h' n' → GX X pc L E h' n' (kc + mc) (ks + ms)) (kk : ∀ (rv : Option Value) (h' : gw_H) (n' : Nat), n ≤ n' → Post rv h' n' → GW X (pc + 3) L (rv.toList ++ S) h' n' (kc + mc) (ks + ms)) : GW X pc L S0 h n kc ks := by
  obtain ⟨p, l1, e, R, s, m, args, below, meth, c, A, Q, K1, ad0, n0⟩ := X
  obtain ⟨hx, hb, hown, hts, hK, hA, hsp, hz, rfl, rfl, rfl, hst, hlk⟩ := hX
  intro ad H locs ls hR hS ha hn hL hv
  have hbn : b < n := hv _ (by rw [hS0]; exact List.mem_append_right _ List.mem_cons_self) b rfl
  have hokA : ∀ v ∈ (.ref b :: As), gw_ok n v := gw_cs (gw_ref hbn) fun v hvv => hv v (by rw [hS0]; exact List.mem_append_left _ (List.mem_reverse.mpr hvv))
  have hokS : ∀ v ∈ S, gw_ok n v := fun v hvv => hv v (by rw [hS0]; exact List.mem_append_right _ (List.mem_cons_of_mem _ hvv))
  have hpre := gw_pre hR hS hA hK hsp hz hokA
  have hstk : S0.map (gw_V ad) = (As.map (gw_V ad)).reverse ++ .ref (ad b) :: S.map (gw_V ad) := by rw [hS0, List.map_append, List.map_reverse]; rfl
  obtain ⟨y, bytes, maxL, ret, fr, lo⟩ := M
  cases hret
  refine gw_run (L := L) (S := S) (vx_runI (As := As.map (gw_V ad)) ⟨hx, hb, rfl, hown, vx_n⟩ (hctr ad H.size) ⟨gw_cb hts hM (hts _ hl rfl) hF hLo, hnm, hts _ hi rfl⟩ ⟨gw_P.blind, hpre⟩ rfl (by rw [List.length_map]; exact hnp) hL.1 hstk (by show 2 * 0 + ((S.map (gw_V ad)).map fun v => v.category).sum ≤ 8; rw [gw_cats]; omega) hd ⟨hC, hCs⟩) hR hS hA ha hn hL hokS kk kx
theorem gw_cn {R : Room} {s : State} {args : Array Value} {own host : String} {idx : Nat} {M : gw_M} {np mc ms : Nat} (hts : ∀ w ∈ lw_tbl, goodWord w = true → w.before args s = true) (hM : CLb M np) (hl : (Cond.methodLinkNest own idx M.1 host).before args s = true) (hF : M.2.2.2.2.1 + 1 ≤ R.frames) (hLo : 8 + (M.2.2.1 + 11) + M.2.2.2.2.2 ≤ R.locals) :
    va_CN R s args own idx M.1 host M.2.1 M.2.2.1 M.2.2.2.1 (gw_w M) { frames := M.2.2.2.2.1, cells := mc, slots := ms, locals := M.2.2.2.2.2 } mc ms np := by
  obtain ⟨h1, h2, h3, h4⟩ := hM
  refine ⟨⟨rfl, rfl, hF, hLo, gw_good hts h1, List.mem_cons_self⟩, hts _ h1 rfl, hts _ h2 rfl, h3, fun sig hs => ?_, hl⟩
  rw [hs] at h4
  exact (Option.some.inj h4).symm
theorem g_callVN {l : Launch} {K : gw_K} {X : gw_X} {cc : ByteArray} {own : String} {F Lo MC MS pc : Nat} {L : List (Option Value)} {S S0 : List Value} {h : gw_H} {n kc ks : Nat} {M : gw_M} {idx np mc ms : Nat} {Post : Option Value → gw_H → Nat → Prop} {PX : String → gw_H → Nat → Prop} {As : List Value} {b ci : Nat} {fs : List Value} {host : String} (hX : FX l K X cc own F Lo MC MS) (hd : decode cc pc = .ok (.invokevirtual idx, 3)) (hM : CLb M np) (hl : Cond.methodLinkNest own idx M.1 host ∈ lw_tbl) (hi : Cond.instanceMethod M.1 ∈ lw_tbl) (hsel : Cond.selects M.1.cls M.1 M.1 ∈ lw_tbl) (hnp : As.length = np) (hS0 : S0 = As.reverse ++ .ref b :: S) (ho : h b = oB ci fs) (hci : ∃ r, vwCl[ci]? = some r ∧ r.1 = M.1.cls) (hctr : Ctr l K M (.ref b :: As) h n mc ms Post PX) (hF : M.2.2.2.2.1 + 1 ≤ F) (hLo : 8 + (M.2.2.1 + 11) + M.2.2.2.2.2 ≤ Lo) (hC : kc + mc ≤ MC) (hCs : ks + ms ≤ MS) (hst8 : (S.map fun v => v.category).sum ≤ 8) (kx : ∀ (E : String) (h' : gw_H) (n' : Nat), n ≤ n' → PX E h' n' → GX X pc L E h' n' (kc + mc) (ks + ms)) (kk : ∀ (rv : Option Value) (h' : gw_H) (n' : Nat), n ≤ n' → Post rv h' n' → GW X (pc + 3) L (rv.toList ++ S) h' n' (kc + mc) (ks + ms)) : GW X pc L S0 h n kc ks := by
  obtain ⟨p, l1, e, R, s, m, args, below, meth, c, A, Q, K1, ad0, n0⟩ := X
  obtain ⟨hx, hb, hown, hts, hK, hA, hsp, hz, rfl, rfl, rfl, hst, hlk⟩ := hX
  intro ad H locs ls hR hS ha hn hL hv
  have hbn : b < n := hv _ (by rw [hS0]; exact List.mem_append_right _ List.mem_cons_self) b rfl
  have hokA : ∀ v ∈ (.ref b :: As), gw_ok n v := gw_cs (gw_ref hbn) fun v hvv => hv v (by rw [hS0]; exact List.mem_append_left _ (List.mem_reverse.mpr hvv))
  have hokS : ∀ v ∈ S, gw_ok n v := fun v hvv => hv v (by rw [hS0]; exact List.mem_append_right _ (List.mem_cons_of_mem _ hvv))
  obtain ⟨r, hr1, hr2⟩ := hci
  have hrecv := va_recv hK hR.1 hr1 (gw_at (K := K1) (ad := ad) hbn ho)
  rw [hr2] at hrecv
  have hpre := gw_pre hR hS hA hK hsp hz hokA
  have hstk : S0.map (gw_V ad) = (As.map (gw_V ad)).reverse ++ .ref (ad b) :: S.map (gw_V ad) := by rw [hS0, List.map_append, List.map_reverse]; rfl
  refine gw_run (L := L) (S := S) (vx_runVN (As := As.map (gw_V ad)) ⟨hx, hb, rfl, hown, vx_n⟩ (hctr ad H.size) ⟨gw_cn hts hM ((hsp.1 _ hl rfl).use rfl) hF hLo, hts _ hi rfl, hts _ hsel rfl⟩ ⟨gw_P.blind, hrecv, hpre⟩ rfl (by rw [List.length_map]; exact hnp) hL.1 hstk (by show 2 * 0 + ((S.map (gw_V ad)).map fun v => v.category).sum ≤ 8; rw [gw_cats]; omega) hd ⟨hC, hCs⟩) hR hS hA ha hn hL hokS kk kx
theorem g_callIN {l : Launch} {K : gw_K} {X : gw_X} {cc : ByteArray} {own : String} {F Lo MC MS pc : Nat} {L : List (Option Value)} {S S0 : List Value} {h : gw_H} {n kc ks : Nat} {M : gw_M} {idx np mc ms : Nat} {Post : Option Value → gw_H → Nat → Prop} {PX : String → gw_H → Nat → Prop} {As : List Value} {b : Nat} (hX : FX l K X cc own F Lo MC MS) (hd : decode cc pc = .ok (.invokespecial idx, 3)) (hM : CLb M np) (host : String) (hl : Cond.methodLinkNest own idx M.1 host ∈ lw_tbl) (hi : Cond.instanceMethod M.1 ∈ lw_tbl) (hret : M.2.2.2.1 = none) (hnm : M.1.name = "<init>") (hnp : As.length = np) (hS0 : S0 = As.reverse ++ .ref b :: S) (hctr : Ctr l K M (.ref b :: As) h n mc ms Post PX) (hF : M.2.2.2.2.1 + 1 ≤ F) (hLo : 8 + (M.2.2.1 + 11) + M.2.2.2.2.2 ≤ Lo) (hC : kc + mc ≤ MC) (hCs : ks + ms ≤ MS) (hst8 : (S.map fun v => v.category).sum ≤ 8) (kx : ∀ (E : String) (h' : gw_H) (n' : Nat), n ≤ n' → PX E h' n' → GX X pc L E h' n' (kc + mc) (ks + ms)) (kk : ∀ (rv : Option Value) (h' : gw_H) (n' : Nat), n ≤ n' → Post rv h' n' → GW X (pc + 3) L (rv.toList ++ S) h' n' (kc + mc) (ks + ms)) : GW X pc L S0 h n kc ks := by
  obtain ⟨p, l1, e, R, s, m, args, below, meth, c, A, Q, K1, ad0, n0⟩ := X
  obtain ⟨hx, hb, hown, hts, hK, hA, hsp, hz, rfl, rfl, rfl, hst, hlk⟩ := hX
  intro ad H locs ls hR hS ha hn hL hv
  have hbn : b < n := hv _ (by rw [hS0]; exact List.mem_append_right _ List.mem_cons_self) b rfl
  have hokA : ∀ v ∈ (.ref b :: As), gw_ok n v := gw_cs (gw_ref hbn) fun v hvv => hv v (by rw [hS0]; exact List.mem_append_left _ (List.mem_reverse.mpr hvv))
  have hokS : ∀ v ∈ S, gw_ok n v := fun v hvv => hv v (by rw [hS0]; exact List.mem_append_right _ (List.mem_cons_of_mem _ hvv))
  have hpre := gw_pre hR hS hA hK hsp hz hokA
  have hstk : S0.map (gw_V ad) = (As.map (gw_V ad)).reverse ++ .ref (ad b) :: S.map (gw_V ad) := by rw [hS0, List.map_append, List.map_reverse]; rfl
  obtain ⟨y, bytes, maxL, ret, fr, lo⟩ := M
  cases hret
  refine gw_run (L := L) (S := S) (vx_runIN (As := As.map (gw_V ad)) ⟨hx, hb, rfl, hown, vx_n⟩ (hctr ad H.size) ⟨gw_cn hts hM ((hsp.1 _ hl rfl).use rfl) hF hLo, hnm, hts _ hi rfl⟩ ⟨gw_P.blind, hpre⟩ rfl (by rw [List.length_map]; exact hnp) hL.1 hstk (by show 2 * 0 + ((S.map (gw_V ad)).map fun v => v.category).sum ≤ 8; rw [gw_cats]; omega) hd ⟨hC, hCs⟩) hR hS hA ha hn hL hokS kk kx
/-- the end of a frame -/
theorem gw_end {n' n : Nat} {h h' : gw_H} {Post : Option Value → gw_H → Nat → Prop} {s : State} {args : Array Value} {A : Nat → Prop} {K1 : gw_K} {ad0 : Nat → Nat} {n0 : Nat} {ad : Nat → Nat} {H : Heap} {locs : List Loc} {rv : Option Value}
    (hA0 : A = gw_fr ad0 n0 s.heap.size) (hR : gw_R K1 ad n h A H) (hS : va_S A s.heap H locs) (ha : ∀ k, k < n0 → ad k = ad0 k) (hn : n0 ≤ n') (hn' : n' ≤ n) (hh : ∀ k, k < n' → h k = h' k) (hok : ∀ k, k < n' → gw_oke n' (h' k)) (hrv : ∀ v, rv = some v → gw_ok n' v) (hp : Post rv h' n') (t : State) (ht : t.heap = H) :
    gw_Q K1 ad0 n0 s.heap.size Post args s (.returned (rv.map (gw_V ad))) t := by
  subst hA0
  refine ⟨⟨rv, h', n', ad, rfl, hp, ha, hn, ?_, hrv⟩, ?_⟩
  · rw [ht]
    have e1 : ∀ (k : Nat) (q : Nat × va_E), (gw_ws K1 ad n' h')[k]? = some q → (gw_ws K1 ad n h)[k]? = some q := fun k q hq => by
      obtain ⟨hk, rfl⟩ := gw_ws_lt hq
      rw [gw_ws_at (by omega), hh k hk]
    refine ⟨fun k q hq => hR.1 k q (e1 k q hq), ⟨fun i j p q hi hj => hR.2.1.1 i j p q (e1 i p hi) (e1 j q hj), fun k q hq => hR.2.1.2 k q (e1 k q hq)⟩, hok⟩
  · rw [va_F, ht]
    exact ⟨hS.1, fun q h1 h2 => hS.2.1 q h1 h2⟩
theorem g_ireturn {l : Launch} {K : gw_K} {X : gw_X} {cc : ByteArray} {own nm : String} {F Lo MC MS pc : Nat} {L : List (Option Value)} {h : gw_H} {n kc ks : Nat} {Post : Option Value → gw_H → Nat → Prop} {PX : String → gw_H → Nat → Prop} {v : Int32} (hX : FX l K X cc own F Lo MC MS) (hr : RX X nm (some .int) Post PX) (hd : decode cc pc = .ok (.ireturn, 1)) (hk1 : kc ≤ MC) (hk2 : ks ≤ MS) (hp : Post (some (.int v)) h n) : GW X pc L [.int v] h n kc ks := by
  obtain ⟨p, l1, e, R, s, m, args, below, meth, c, A, Q, K1, ad0, n0⟩ := X
  obtain ⟨hx, hb, hown, hts, hK, hA, hsp, hz, rfl, rfl, rfl, hst, hlk⟩ := hX
  obtain ⟨-, hret, hA0, hQ⟩ := hr
  intro ad H locs ls hR hS ha hn hL hv
  subst hQ
  refine vx_ret (W.widen hk1 hk2 ?_)
  have hfr : ∀ q ∈ locs, gw_fr ad0 n0 s.heap.size q.base := fun q hq => by rw [← hA0]; exact hS.2.2 q hq
  exact W.iret (v := v) hx hb hret (fun t ht hW => gw_end hA0 hR hS ha hn (Nat.le_refl _) (fun _ _ => rfl) hR.2.2 (fun w hw => by cases hw; exact gw_int _ _) hp t ht) hfr hd (hlocks := hlk)
theorem g_lreturn {l : Launch} {K : gw_K} {X : gw_X} {cc : ByteArray} {own nm : String} {F Lo MC MS pc : Nat} {L : List (Option Value)} {h : gw_H} {n kc ks : Nat} {Post : Option Value → gw_H → Nat → Prop} {PX : String → gw_H → Nat → Prop} {v : Int64} (hX : FX l K X cc own F Lo MC MS) (hr : RX X nm (some .long) Post PX) (hd : decode cc pc = .ok (.lreturn, 1)) (hk1 : kc ≤ MC) (hk2 : ks ≤ MS) (hp : Post (some (.long v)) h n) : GW X pc L [.long v] h n kc ks := by
  obtain ⟨p, l1, e, R, s, m, args, below, meth, c, A, Q, K1, ad0, n0⟩ := X
  obtain ⟨hx, hb, hown, hts, hK, hA, hsp, hz, rfl, rfl, rfl, hst, hlk⟩ := hX
  obtain ⟨-, hret, hA0, hQ⟩ := hr
  intro ad H locs ls hR hS ha hn hL hv
  subst hQ
  refine vx_ret (W.widen hk1 hk2 ?_)
  have hfr : ∀ q ∈ locs, gw_fr ad0 n0 s.heap.size q.base := fun q hq => by rw [← hA0]; exact hS.2.2 q hq
  exact W.lret (v := v) hx hb hret (fun t ht hW => gw_end hA0 hR hS ha hn (Nat.le_refl _) (fun _ _ => rfl) hR.2.2 (fun w hw => by cases hw; exact gw_long _ _) hp t ht) hfr hd (hlocks := hlk)
theorem g_dreturn {l : Launch} {K : gw_K} {X : gw_X} {cc : ByteArray} {own nm : String} {F Lo MC MS pc : Nat} {L : List (Option Value)} {h : gw_H} {n kc ks : Nat} {Post : Option Value → gw_H → Nat → Prop} {PX : String → gw_H → Nat → Prop} {v : UInt64} (hX : FX l K X cc own F Lo MC MS) (hr : RX X nm (some .double) Post PX) (hd : decode cc pc = .ok (.dreturn, 1)) (hk1 : kc ≤ MC) (hk2 : ks ≤ MS) (hp : Post (some (.double v)) h n) : GW X pc L [.double v] h n kc ks := by
  obtain ⟨p, l1, e, R, s, m, args, below, meth, c, A, Q, K1, ad0, n0⟩ := X
  obtain ⟨hx, hb, hown, hts, hK, hA, hsp, hz, rfl, rfl, rfl, hst, hlk⟩ := hX
  obtain ⟨-, hret, hA0, hQ⟩ := hr
  intro ad H locs ls hR hS ha hn hL hv
  subst hQ
  refine vx_ret (W.widen hk1 hk2 ?_)
  have hfr : ∀ q ∈ locs, gw_fr ad0 n0 s.heap.size q.base := fun q hq => by rw [← hA0]; exact hS.2.2 q hq
  exact W.dret (v := v) hx hb hret (fun t ht hW => gw_end hA0 hR hS ha hn (Nat.le_refl _) (fun _ _ => rfl) hR.2.2 (fun w hw => by cases hw; exact gw_dbl _ _) hp t ht) hfr hd (hlocks := hlk)
theorem g_zreturn {l : Launch} {K : gw_K} {X : gw_X} {cc : ByteArray} {own nm : String} {F Lo MC MS pc : Nat} {L : List (Option Value)} {h : gw_H} {n kc ks : Nat} {Post : Option Value → gw_H → Nat → Prop} {PX : String → gw_H → Nat → Prop} {v : Int32} {ty : FieldType} (hX : FX l K X cc own F Lo MC MS) (hr : RX X nm (some ty) Post PX) (hnr : narrow ty (.int v) = .int v) (hd : decode cc pc = .ok (.ireturn, 1)) (hk1 : kc ≤ MC) (hk2 : ks ≤ MS) (hp : Post (some (.int v)) h n) : GW X pc L [.int v] h n kc ks := by
  obtain ⟨p, l1, e, R, s, m, args, below, meth, c, A, Q, K1, ad0, n0⟩ := X
  obtain ⟨hx, hb, hown, hts, hK, hA, hsp, hz, rfl, rfl, rfl, hst, hlk⟩ := hX
  obtain ⟨-, hret, hA0, hQ⟩ := hr
  intro ad H locs ls hR hS ha hn hL hv
  subst hQ
  refine vx_ret (W.widen hk1 hk2 ?_)
  have hfr : ∀ q ∈ locs, gw_fr ad0 n0 s.heap.size q.base := fun q hq => by rw [← hA0]; exact hS.2.2 q hq
  exact W.zret (v := v) hx hb hret hnr (fun t ht hW => gw_end hA0 hR hS ha hn (Nat.le_refl _) (fun _ _ => rfl) hR.2.2 (fun w hw => by cases hw; exact gw_int _ _) hp t ht) hfr hd (hlocks := hlk)
theorem g_return {l : Launch} {K : gw_K} {X : gw_X} {cc : ByteArray} {own nm : String} {F Lo MC MS pc : Nat} {L : List (Option Value)} {h : gw_H} {n kc ks : Nat} {Post : Option Value → gw_H → Nat → Prop} {PX : String → gw_H → Nat → Prop} (hX : FX l K X cc own F Lo MC MS) (hr : RX X nm none Post PX) (hd : decode cc pc = .ok (.return_, 1)) (hk1 : kc ≤ MC) (hk2 : ks ≤ MS) (hp : Post none h n) : GW X pc L [] h n kc ks := by
  obtain ⟨p, l1, e, R, s, m, args, below, meth, c, A, Q, K1, ad0, n0⟩ := X
  obtain ⟨hx, hb, hown, hts, hK, hA, hsp, hz, rfl, rfl, rfl, hst, hlk⟩ := hX
  obtain ⟨-, hret, hA0, hQ⟩ := hr
  intro ad H locs ls hR hS ha hn hL hv
  subst hQ
  refine vx_ret (W.widen hk1 hk2 ?_)
  have hfr : ∀ q ∈ locs, gw_fr ad0 n0 s.heap.size q.base := fun q hq => by rw [← hA0]; exact hS.2.2 q hq
  exact W.vret hx hb hret (fun t ht hW => gw_end hA0 hR hS ha hn (Nat.le_refl _) (fun _ _ => rfl) hR.2.2 (fun w hw => by cases hw) (rv := none) hp t ht) hfr hd (hlocks := hlk)
theorem g_ireturnT {l : Launch} {K : gw_K} {X : gw_X} {cc : ByteArray} {own nm : String} {F Lo MC MS pc : Nat} {L : List (Option Value)} {h : gw_H} {n kc ks : Nat} {Post : Option Value → gw_H → Nat → Prop} {PX : String → gw_H → Nat → Prop} {v : Int32} (hX : FX l K X cc own F Lo MC MS) (hr : RX X nm (some .int) Post PX) (hd : decode cc pc = .ok (.ireturn, 1)) (hk1 : kc ≤ MC) (hk2 : ks ≤ MS) (n' : Nat) (h' : gw_H) (hn' : n' ≤ n) (hn0 : X.2.2.2.2.2.2.2.2.2.2.2.2.2.2 ≤ n') (hh : ∀ k, k < n' → h k = h' k) (hok : ∀ k, k < n' → gw_oke n' (h' k)) (hp : Post (some (.int v)) h' n') : GW X pc L [.int v] h n kc ks := by
  obtain ⟨p, l1, e, R, s, m, args, below, meth, c, A, Q, K1, ad0, n0⟩ := X
  obtain ⟨hx, hb, hown, hts, hK, hA, hsp, hz, rfl, rfl, rfl, hst, hlk⟩ := hX
  obtain ⟨-, hret, hA0, hQ⟩ := hr
  intro ad H locs ls hR hS ha hn hL hv
  subst hQ
  refine vx_ret (W.widen hk1 hk2 ?_)
  have hfr : ∀ q ∈ locs, gw_fr ad0 n0 s.heap.size q.base := fun q hq => by rw [← hA0]; exact hS.2.2 q hq
  exact W.iret (v := v) hx hb hret (fun t ht hW => gw_end hA0 hR hS ha hn0 hn' hh hok (fun w hw => by cases hw; exact gw_int _ _) hp t ht) hfr hd (hlocks := hlk)
theorem g_lreturnT {l : Launch} {K : gw_K} {X : gw_X} {cc : ByteArray} {own nm : String} {F Lo MC MS pc : Nat} {L : List (Option Value)} {h : gw_H} {n kc ks : Nat} {Post : Option Value → gw_H → Nat → Prop} {PX : String → gw_H → Nat → Prop} {v : Int64} (hX : FX l K X cc own F Lo MC MS) (hr : RX X nm (some .long) Post PX) (hd : decode cc pc = .ok (.lreturn, 1)) (hk1 : kc ≤ MC) (hk2 : ks ≤ MS) (n' : Nat) (h' : gw_H) (hn' : n' ≤ n) (hn0 : X.2.2.2.2.2.2.2.2.2.2.2.2.2.2 ≤ n') (hh : ∀ k, k < n' → h k = h' k) (hok : ∀ k, k < n' → gw_oke n' (h' k)) (hp : Post (some (.long v)) h' n') : GW X pc L [.long v] h n kc ks := by
  obtain ⟨p, l1, e, R, s, m, args, below, meth, c, A, Q, K1, ad0, n0⟩ := X
  obtain ⟨hx, hb, hown, hts, hK, hA, hsp, hz, rfl, rfl, rfl, hst, hlk⟩ := hX
  obtain ⟨-, hret, hA0, hQ⟩ := hr
  intro ad H locs ls hR hS ha hn hL hv
  subst hQ
  refine vx_ret (W.widen hk1 hk2 ?_)
  have hfr : ∀ q ∈ locs, gw_fr ad0 n0 s.heap.size q.base := fun q hq => by rw [← hA0]; exact hS.2.2 q hq
  exact W.lret (v := v) hx hb hret (fun t ht hW => gw_end hA0 hR hS ha hn0 hn' hh hok (fun w hw => by cases hw; exact gw_long _ _) hp t ht) hfr hd (hlocks := hlk)
theorem g_dreturnT {l : Launch} {K : gw_K} {X : gw_X} {cc : ByteArray} {own nm : String} {F Lo MC MS pc : Nat} {L : List (Option Value)} {h : gw_H} {n kc ks : Nat} {Post : Option Value → gw_H → Nat → Prop} {PX : String → gw_H → Nat → Prop} {v : UInt64} (hX : FX l K X cc own F Lo MC MS) (hr : RX X nm (some .double) Post PX) (hd : decode cc pc = .ok (.dreturn, 1)) (hk1 : kc ≤ MC) (hk2 : ks ≤ MS) (n' : Nat) (h' : gw_H) (hn' : n' ≤ n) (hn0 : X.2.2.2.2.2.2.2.2.2.2.2.2.2.2 ≤ n') (hh : ∀ k, k < n' → h k = h' k) (hok : ∀ k, k < n' → gw_oke n' (h' k)) (hp : Post (some (.double v)) h' n') : GW X pc L [.double v] h n kc ks := by
  obtain ⟨p, l1, e, R, s, m, args, below, meth, c, A, Q, K1, ad0, n0⟩ := X
  obtain ⟨hx, hb, hown, hts, hK, hA, hsp, hz, rfl, rfl, rfl, hst, hlk⟩ := hX
  obtain ⟨-, hret, hA0, hQ⟩ := hr
  intro ad H locs ls hR hS ha hn hL hv
  subst hQ
  refine vx_ret (W.widen hk1 hk2 ?_)
  have hfr : ∀ q ∈ locs, gw_fr ad0 n0 s.heap.size q.base := fun q hq => by rw [← hA0]; exact hS.2.2 q hq
  exact W.dret (v := v) hx hb hret (fun t ht hW => gw_end hA0 hR hS ha hn0 hn' hh hok (fun w hw => by cases hw; exact gw_dbl _ _) hp t ht) hfr hd (hlocks := hlk)
theorem g_zreturnT {l : Launch} {K : gw_K} {X : gw_X} {cc : ByteArray} {own nm : String} {F Lo MC MS pc : Nat} {L : List (Option Value)} {h : gw_H} {n kc ks : Nat} {Post : Option Value → gw_H → Nat → Prop} {PX : String → gw_H → Nat → Prop} {v : Int32} {ty : FieldType} (hX : FX l K X cc own F Lo MC MS) (hr : RX X nm (some ty) Post PX) (hnr : narrow ty (.int v) = .int v) (hd : decode cc pc = .ok (.ireturn, 1)) (hk1 : kc ≤ MC) (hk2 : ks ≤ MS) (n' : Nat) (h' : gw_H) (hn' : n' ≤ n) (hn0 : X.2.2.2.2.2.2.2.2.2.2.2.2.2.2 ≤ n') (hh : ∀ k, k < n' → h k = h' k) (hok : ∀ k, k < n' → gw_oke n' (h' k)) (hp : Post (some (.int v)) h' n') : GW X pc L [.int v] h n kc ks := by
  obtain ⟨p, l1, e, R, s, m, args, below, meth, c, A, Q, K1, ad0, n0⟩ := X
  obtain ⟨hx, hb, hown, hts, hK, hA, hsp, hz, rfl, rfl, rfl, hst, hlk⟩ := hX
  obtain ⟨-, hret, hA0, hQ⟩ := hr
  intro ad H locs ls hR hS ha hn hL hv
  subst hQ
  refine vx_ret (W.widen hk1 hk2 ?_)
  have hfr : ∀ q ∈ locs, gw_fr ad0 n0 s.heap.size q.base := fun q hq => by rw [← hA0]; exact hS.2.2 q hq
  exact W.zret (v := v) hx hb hret hnr (fun t ht hW => gw_end hA0 hR hS ha hn0 hn' hh hok (fun w hw => by cases hw; exact gw_int _ _) hp t ht) hfr hd (hlocks := hlk)
theorem g_returnT {l : Launch} {K : gw_K} {X : gw_X} {cc : ByteArray} {own nm : String} {F Lo MC MS pc : Nat} {L : List (Option Value)} {h : gw_H} {n kc ks : Nat} {Post : Option Value → gw_H → Nat → Prop} {PX : String → gw_H → Nat → Prop} (hX : FX l K X cc own F Lo MC MS) (hr : RX X nm none Post PX) (hd : decode cc pc = .ok (.return_, 1)) (hk1 : kc ≤ MC) (hk2 : ks ≤ MS) (n' : Nat) (h' : gw_H) (hn' : n' ≤ n) (hn0 : X.2.2.2.2.2.2.2.2.2.2.2.2.2.2 ≤ n') (hh : ∀ k, k < n' → h k = h' k) (hok : ∀ k, k < n' → gw_oke n' (h' k)) (hp : Post none h' n') : GW X pc L [] h n kc ks := by
  obtain ⟨p, l1, e, R, s, m, args, below, meth, c, A, Q, K1, ad0, n0⟩ := X
  obtain ⟨hx, hb, hown, hts, hK, hA, hsp, hz, rfl, rfl, rfl, hst, hlk⟩ := hX
  obtain ⟨-, hret, hA0, hQ⟩ := hr
  intro ad H locs ls hR hS ha hn hL hv
  subst hQ
  refine vx_ret (W.widen hk1 hk2 ?_)
  have hfr : ∀ q ∈ locs, gw_fr ad0 n0 s.heap.size q.base := fun q hq => by rw [← hA0]; exact hS.2.2 q hq
  exact W.vret hx hb hret (fun t ht hW => gw_end hA0 hR hS ha hn0 hn' hh hok (fun w hw => by cases hw) (rv := none) hp t ht) hfr hd (hlocks := hlk)
theorem g_areturn {l : Launch} {K : gw_K} {X : gw_X} {cc : ByteArray} {own nm : String} {F Lo MC MS pc : Nat} {L : List (Option Value)} {h : gw_H} {n kc ks : Nat} {Post : Option Value → gw_H → Nat → Prop} {PX : String → gw_H → Nat → Prop} {v : Nat} {rt : FieldType} (hX : FX l K X cc own F Lo MC MS) (hr : RX X nm (some rt) Post PX) (hrt : (∃ n, rt = .object n) ∨ ∃ t, rt = .array t) (hd : decode cc pc = .ok (.areturn, 1)) (hk1 : kc ≤ MC) (hk2 : ks ≤ MS) (hp : Post (some (.ref v)) h n) : GW X pc L [.ref v] h n kc ks := by
  obtain ⟨p, l1, e, R, s, m, args, below, meth, c, A, Q, K1, ad0, n0⟩ := X
  obtain ⟨hx, hb, hown, hts, hK, hA, hsp, hz, rfl, rfl, rfl, hst, hlk⟩ := hX
  obtain ⟨-, hret, hA0, hQ⟩ := hr
  intro ad H locs ls hR hS ha hn hL hv
  subst hQ
  refine vx_ret (W.widen hk1 hk2 ?_)
  have hfr : ∀ q ∈ locs, gw_fr ad0 n0 s.heap.size q.base := fun q hq => by rw [← hA0]; exact hS.2.2 q hq
  exact W.aret (v := .ref (ad v)) hx hb hret hrt (Or.inr ⟨_, rfl⟩) (fun t ht hW => gw_end hA0 hR hS ha hn (Nat.le_refl _) (fun _ _ => rfl) hR.2.2 (fun w hw => by cases hw; exact gw_hd hv) hp t ht) hfr hd (hlocks := hlk)
abbrev gw_ns : List String := ["java/lang/RuntimeException", "java/lang/Exception"]
def TS (own : String) (ik is ic : Nat) (cls text : String) : Prop := own = RX3 ∧ Bundle.fit cls = true ∧ (is, text) ∈ gw_strs ∧ Cond.classLink own ik cls ∈ lw_tbl ∧ Cond.initialized cls ∈ lw_tbl ∧ (∀ w ∈ vx_atS own ic cls gw_ns, w ∈ lw_tbl ∧ (goodWord w = true ∨ gw_sp w = true)) ∧ ∀ w ∈ Cond.classLink own ik cls :: Cond.initialized cls :: vx_atS own ic cls gw_ns, vx_ot w = true
/-- throw new E("text") out of a method without handlers -/
theorem g_throwS {l : Launch} {K : gw_K} {X : gw_X} {cc : ByteArray} {own nm : String} {F Lo MC MS pc : Nat} {L : List (Option Value)} {S : List Value} {h : gw_H} {n kc ks : Nat} {ret : Option FieldType} {Post : Option Value → gw_H → Nat → Prop} {PX : String → gw_H → Nat → Prop} {ik is ic : Nat} {cls text : String}
    (hX : FX l K X cc own F Lo MC MS) (hr : RX X nm ret Post PX) (htab : ∀ x ∈ X.2.2.2.2.2.2.2.2.2.1.exceptionTable.toList, False) (ht : TS own ik is ic cls text)
    (d0 : decode cc pc = .ok (.new ik, 3)) (d3 : decode cc (pc + 3) = .ok (.dup, 1)) (d4 : decode cc (pc + 4) = .ok (.ldc is, 2)) (d6 : decode cc (pc + 6) = .ok (.invokespecial ic, 3)) (d9 : decode cc (pc + 9) = .ok (.athrow, 1))
    (hF : 6 ≤ F) (hLo : (S.map fun v => v.category).sum + 82 ≤ Lo) (hC : kc + 1 ≤ MC) (hCs : ks + 6 ≤ MS) (hp : PX cls h n) : GW X pc L S h n kc ks := by
  obtain ⟨p, l1, e, R, s, m, args, below, meth, c, A, Q, K1, ad0, n0⟩ := X
  obtain ⟨hx, hb, hown, hts, hK, hA, hsp, hz, rfl, rfl, rfl, hst, hlk⟩ := hX
  obtain ⟨-, hret, hA0, hQ⟩ := hr
  obtain ⟨t1, t2, t3, t4, t5, t6, t7⟩ := ht
  intro ad H locs ls hR hS ha hn hL hv
  subst hQ
  obtain ⟨sa, hsa⟩ := hsp.2.2.1 _ t3
  have hat : ∀ w ∈ vx_atS own ic cls gw_ns, w.before args s = true := fun w hw => by
    obtain ⟨g1, g2⟩ := t6 w hw
    rcases g2 with g2 | g2
    · exact hts w g1 g2
    · exact (hsp.1 w g1 g2).use (gw_sp_on g2)
  subst t1
  refine vx_throwS (names := gw_ns) hx hb hst hown t2 (by decide +kernel) (hts _ t4 rfl) (hts _ t5 rfl) hsa hat t7 hz.1 hz.2 hS hL.1 d0 d3 d4 d6 d9 (fun x hx => (htab x hx).elim) (by show 2 + 3 < F; omega) (by show _ + (13 * (2 + 1) + 43) ≤ Lo; rw [gw_cats]; omega) hC hCs hlk (fun t hvm hsz hq => ?_) (fun z hz => by rw [← hA0]; exact hS.2.2 z hz) hC hCs
  refine ⟨⟨h, n, ad, hp, ha, hn, ?_⟩, ?_⟩
  · rw [← hA0]
    exact ⟨hR.1.kept fun k q hk => hq _ (hR.1 k q hk).lt, hR.2.1, hR.2.2⟩
  · rw [← hA0]
    exact ⟨Nat.le_trans hS.1 hsz, fun q h1 h2 => (hq q (Nat.lt_of_lt_of_le h1 hS.1)).trans (hS.2.1 q h1 h2)⟩
/-- not caught: on to the caller -/
theorem g_out {l : Launch} {K : gw_K} {X : gw_X} {cc : ByteArray} {own nm : String} {F Lo MC MS pc : Nat} {L : List (Option Value)} {E : String} {h : gw_H} {n kc ks : Nat} {ret : Option FieldType} {Post : Option Value → gw_H → Nat → Prop} {PX : String → gw_H → Nat → Prop}
    (hX : FX l K X cc own F Lo MC MS) (hr : RX X nm ret Post PX) (htab : ∀ x ∈ X.2.2.2.2.2.2.2.2.2.1.exceptionTable.toList, False) (hC : kc ≤ MC) (hCs : ks ≤ MS) (hp : PX E h n) : GX X pc L E h n kc ks := by
  obtain ⟨p, l1, e, R, s, m, args, below, meth, c, A, Q, K1, ad0, n0⟩ := X
  obtain ⟨hx, hb, hown, hts, hK, hA, hsp, hz, rfl, rfl, rfl, hst, hlk⟩ := hX
  obtain ⟨-, hret, hA0, hQ⟩ := hr
  intro ad H locs ls q ce rest hR hS ha hn hL h1 h2 h3
  subst hQ
  refine vx_out (fun x hx => (htab x hx).elim) hlk h1 h2 h3 (fun t ht hvm => ?_) (fun z hz => by rw [← hA0]; exact hS.2.2 z hz) hC hCs
  refine ⟨⟨h, n, ad, hp, ha, hn, ?_⟩, ?_⟩
  · rw [← hA0, ht]; exact hR
  · rw [← hA0, va_F, ht]; exact ⟨hS.1, hS.2.1⟩
theorem GX.no {X : gw_X} {pc : Nat} {L : List (Option Value)} {n kc ks : Nat} : ∀ (E : String) (h' : gw_H) (n' : Nat), n ≤ n' → (fun (_ : String) (_ : gw_H) (_ : Nat) => False) E h' n' → GX X pc L E h' n' kc ks := fun _ _ _ _ h => h.elim
abbrev PX0 : String → gw_H → Nat → Prop := fun _ _ _ => False
