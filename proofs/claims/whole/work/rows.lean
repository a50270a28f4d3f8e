section
-- ===== PART A: goes FIRST, ahead of the names: the tables' words, and 'selects' of the private methods out of them =====
/-- a private method of a class that the tables say can be made, by its rows of tables_1 -/
def lw_okq (q : MethodName × Nat) : Prop := (q.1.cls ≠ "java/lang/invoke/MethodHandle" ∧ q.1.cls ≠ "java/lang/invoke/VarHandle") ∧ Cond.instantiable q.1.cls q.2 ∈ tables_1 ∧ Cond.privateMethod q.1 ∈ tables_1 ∧ Cond.instanceMethod q.1 ∈ tables_1
theorem lw_p0 : lw_okq (⟨"java/lang/Throwable", "fillInStackTrace", "(I)Ljava/lang/Throwable;"⟩, 6) := ⟨⟨by decide +kernel, by decide +kernel⟩, List.mem_of_getElem? (i := 224) (by decide +kernel), List.mem_of_getElem? (i := 222) (by decide +kernel), List.mem_of_getElem? (i := 223) (by decide +kernel)⟩
theorem lw_p1 : lw_okq (⟨"BellRoster", "digestRingers", "(J)J"⟩, 7) := ⟨⟨by decide +kernel, by decide +kernel⟩, List.mem_of_getElem? (i := 17) (by decide +kernel), List.mem_of_getElem? (i := 266) (by decide +kernel), List.mem_of_getElem? (i := 267) (by decide +kernel)⟩
theorem lw_p2 : lw_okq (⟨"BellRoster", "digestBands", "(J)J"⟩, 7) := ⟨⟨by decide +kernel, by decide +kernel⟩, List.mem_of_getElem? (i := 17) (by decide +kernel), List.mem_of_getElem? (i := 286) (by decide +kernel), List.mem_of_getElem? (i := 287) (by decide +kernel)⟩
theorem lw_p3 : lw_okq (⟨"BellRoster$Tower", "electTo", "(I)V"⟩, 10) := ⟨⟨by decide +kernel, by decide +kernel⟩, List.mem_of_getElem? (i := 25) (by decide +kernel), List.mem_of_getElem? (i := 315) (by decide +kernel), List.mem_of_getElem? (i := 316) (by decide +kernel)⟩
theorem lw_p4 : lw_okq (⟨"BellRoster", "digestMethods", "(J)J"⟩, 7) := ⟨⟨by decide +kernel, by decide +kernel⟩, List.mem_of_getElem? (i := 17) (by decide +kernel), List.mem_of_getElem? (i := 319) (by decide +kernel), List.mem_of_getElem? (i := 320) (by decide +kernel)⟩
theorem lw_p5 : lw_okq (⟨"BellRoster", "listNumbered", "(I)LBellRoster$ChangeList;"⟩, 7) := ⟨⟨by decide +kernel, by decide +kernel⟩, List.mem_of_getElem? (i := 17) (by decide +kernel), List.mem_of_getElem? (i := 327) (by decide +kernel), List.mem_of_getElem? (i := 328) (by decide +kernel)⟩
theorem lw_p6 : lw_okq (⟨"BellRoster$ChangeList", "allDodges", "()I"⟩, 7) := ⟨⟨by decide +kernel, by decide +kernel⟩, List.mem_of_getElem? (i := 95) (by decide +kernel), List.mem_of_getElem? (i := 335) (by decide +kernel), List.mem_of_getElem? (i := 336) (by decide +kernel)⟩
theorem lw_p7 : lw_okq (⟨"BellRoster$Touch", "noteRow", "()V"⟩, 6) := ⟨⟨by decide +kernel, by decide +kernel⟩, List.mem_of_getElem? (i := 68) (by decide +kernel), List.mem_of_getElem? (i := 491) (by decide +kernel), List.mem_of_getElem? (i := 492) (by decide +kernel)⟩
theorem lw_p8 : lw_okq (⟨"BellRoster$ChangeList", "goThroughLead", "(LBellRoster$Touch;)V"⟩, 7) := ⟨⟨by decide +kernel, by decide +kernel⟩, List.mem_of_getElem? (i := 95) (by decide +kernel), List.mem_of_getElem? (i := 495) (by decide +kernel), List.mem_of_getElem? (i := 496) (by decide +kernel)⟩
theorem lw_p9 : lw_okq (⟨"BellRoster$Touch", "bellAt", "(I)I"⟩, 6) := ⟨⟨by decide +kernel, by decide +kernel⟩, List.mem_of_getElem? (i := 68) (by decide +kernel), List.mem_of_getElem? (i := 546) (by decide +kernel), List.mem_of_getElem? (i := 547) (by decide +kernel)⟩
theorem lw_p10 : lw_okq (⟨"BellRoster", "canBeRung", "(LBellRoster$ChangeList;I)Z"⟩, 7) := ⟨⟨by decide +kernel, by decide +kernel⟩, List.mem_of_getElem? (i := 17) (by decide +kernel), List.mem_of_getElem? (i := 561) (by decide +kernel), List.mem_of_getElem? (i := 562) (by decide +kernel)⟩
theorem lw_p11 : lw_okq (⟨"BellRoster$Tower", "tireDodgers", "(ILBellRoster$Touch;)V"⟩, 10) := ⟨⟨by decide +kernel, by decide +kernel⟩, List.mem_of_getElem? (i := 25) (by decide +kernel), List.mem_of_getElem? (i := 578) (by decide +kernel), List.mem_of_getElem? (i := 579) (by decide +kernel)⟩
theorem lw_p12 : lw_okq (⟨"BellRoster$Tower", "tire", "(I)V"⟩, 10) := ⟨⟨by decide +kernel, by decide +kernel⟩, List.mem_of_getElem? (i := 25) (by decide +kernel), List.mem_of_getElem? (i := 583) (by decide +kernel), List.mem_of_getElem? (i := 584) (by decide +kernel)⟩
theorem lw_p13 : lw_okq (⟨"BellRoster", "votesBrought", "(ILBellRoster$ChangeList;I)I"⟩, 7) := ⟨⟨by decide +kernel, by decide +kernel⟩, List.mem_of_getElem? (i := 17) (by decide +kernel), List.mem_of_getElem? (i := 597) (by decide +kernel), List.mem_of_getElem? (i := 598) (by decide +kernel)⟩
theorem lw_p14 : lw_okq (⟨"BellRoster$Tower", "passDay", "()V"⟩, 10) := ⟨⟨by decide +kernel, by decide +kernel⟩, List.mem_of_getElem? (i := 25) (by decide +kernel), List.mem_of_getElem? (i := 623) (by decide +kernel), List.mem_of_getElem? (i := 624) (by decide +kernel)⟩
theorem lw_p15 : lw_okq (⟨"BellRosterModel", "no", "(I)I"⟩, 18) := ⟨⟨by decide +kernel, by decide +kernel⟩, List.mem_of_getElem? (i := 639) (by decide +kernel), List.mem_of_getElem? (i := 749) (by decide +kernel), List.mem_of_getElem? (i := 750) (by decide +kernel)⟩
def lw_privs_1 : List (MethodName × Nat) := [(⟨"java/lang/Throwable", "fillInStackTrace", "(I)Ljava/lang/Throwable;"⟩, 6), (⟨"BellRoster", "digestRingers", "(J)J"⟩, 7), (⟨"BellRoster", "digestBands", "(J)J"⟩, 7), (⟨"BellRoster$Tower", "electTo", "(I)V"⟩, 10), (⟨"BellRoster", "digestMethods", "(J)J"⟩, 7), (⟨"BellRoster", "listNumbered", "(I)LBellRoster$ChangeList;"⟩, 7), (⟨"BellRoster$ChangeList", "allDodges", "()I"⟩, 7), (⟨"BellRoster$Touch", "noteRow", "()V"⟩, 6), (⟨"BellRoster$ChangeList", "goThroughLead", "(LBellRoster$Touch;)V"⟩, 7), (⟨"BellRoster$Touch", "bellAt", "(I)I"⟩, 6), (⟨"BellRoster", "canBeRung", "(LBellRoster$ChangeList;I)Z"⟩, 7), (⟨"BellRoster$Tower", "tireDodgers", "(ILBellRoster$Touch;)V"⟩, 10), (⟨"BellRoster$Tower", "tire", "(I)V"⟩, 10), (⟨"BellRoster", "votesBrought", "(ILBellRoster$ChangeList;I)I"⟩, 7), (⟨"BellRoster$Tower", "passDay", "()V"⟩, 10), (⟨"BellRosterModel", "no", "(I)I"⟩, 18)]
theorem lw_r1 : ∀ q ∈ lw_privs_1, lw_okq q := List.forall_mem_cons.mpr ⟨lw_p0, List.forall_mem_cons.mpr ⟨lw_p1, List.forall_mem_cons.mpr ⟨lw_p2, List.forall_mem_cons.mpr ⟨lw_p3, List.forall_mem_cons.mpr ⟨lw_p4, List.forall_mem_cons.mpr ⟨lw_p5, List.forall_mem_cons.mpr ⟨lw_p6, List.forall_mem_cons.mpr ⟨lw_p7, List.forall_mem_cons.mpr ⟨lw_p8, List.forall_mem_cons.mpr ⟨lw_p9, List.forall_mem_cons.mpr ⟨lw_p10, List.forall_mem_cons.mpr ⟨lw_p11, List.forall_mem_cons.mpr ⟨lw_p12, List.forall_mem_cons.mpr ⟨lw_p13, List.forall_mem_cons.mpr ⟨lw_p14, List.forall_mem_cons.mpr ⟨lw_p15, fun _ h => absurd h List.not_mem_nil⟩⟩⟩⟩⟩⟩⟩⟩⟩⟩⟩⟩⟩⟩⟩⟩
theorem lw_p16 : lw_okq (⟨"BellRosterModel", "isRinger", "(I)Z"⟩, 18) := ⟨⟨by decide +kernel, by decide +kernel⟩, List.mem_of_getElem? (i := 639) (by decide +kernel), List.mem_of_getElem? (i := 757) (by decide +kernel), List.mem_of_getElem? (i := 758) (by decide +kernel)⟩
theorem lw_p17 : lw_okq (⟨"BellRosterModel", "ringerTold", "(LBellRosterModel$State;II)I"⟩, 18) := ⟨⟨by decide +kernel, by decide +kernel⟩, List.mem_of_getElem? (i := 639) (by decide +kernel), List.mem_of_getElem? (i := 798) (by decide +kernel), List.mem_of_getElem? (i := 799) (by decide +kernel)⟩
theorem lw_p18 : lw_okq (⟨"BellRosterModel", "bellTold", "(III)I"⟩, 18) := ⟨⟨by decide +kernel, by decide +kernel⟩, List.mem_of_getElem? (i := 639) (by decide +kernel), List.mem_of_getElem? (i := 806) (by decide +kernel), List.mem_of_getElem? (i := 807) (by decide +kernel)⟩
theorem lw_p19 : lw_okq (⟨"BellRosterModel$State", "copy", "([I[I)V"⟩, 6) := ⟨⟨by decide +kernel, by decide +kernel⟩, List.mem_of_getElem? (i := 645) (by decide +kernel), List.mem_of_getElem? (i := 814) (by decide +kernel), List.mem_of_getElem? (i := 815) (by decide +kernel)⟩
theorem lw_p20 : lw_okq (⟨"BellRosterModel", "isMethod", "(I)Z"⟩, 18) := ⟨⟨by decide +kernel, by decide +kernel⟩, List.mem_of_getElem? (i := 639) (by decide +kernel), List.mem_of_getElem? (i := 827) (by decide +kernel), List.mem_of_getElem? (i := 828) (by decide +kernel)⟩
theorem lw_p21 : lw_okq (⟨"BellRosterModel", "methodTold", "(II)I"⟩, 18) := ⟨⟨by decide +kernel, by decide +kernel⟩, List.mem_of_getElem? (i := 639) (by decide +kernel), List.mem_of_getElem? (i := 835) (by decide +kernel), List.mem_of_getElem? (i := 836) (by decide +kernel)⟩
theorem lw_p22 : lw_okq (⟨"BellRosterModel", "walk", "(II)V"⟩, 18) := ⟨⟨by decide +kernel, by decide +kernel⟩, List.mem_of_getElem? (i := 639) (by decide +kernel), List.mem_of_getElem? (i := 839) (by decide +kernel), List.mem_of_getElem? (i := 840) (by decide +kernel)⟩
theorem lw_p23 : lw_okq (⟨"BellRosterModel", "walkChanges", "(II)V"⟩, 18) := ⟨⟨by decide +kernel, by decide +kernel⟩, List.mem_of_getElem? (i := 639) (by decide +kernel), List.mem_of_getElem? (i := 843) (by decide +kernel), List.mem_of_getElem? (i := 844) (by decide +kernel)⟩
theorem lw_p24 : lw_okq (⟨"BellRosterModel", "code", "()I"⟩, 18) := ⟨⟨by decide +kernel, by decide +kernel⟩, List.mem_of_getElem? (i := 639) (by decide +kernel), List.mem_of_getElem? (i := 847) (by decide +kernel), List.mem_of_getElem? (i := 848) (by decide +kernel)⟩
theorem lw_p25 : lw_okq (⟨"BellRosterModel", "course", "(I)I"⟩, 18) := ⟨⟨by decide +kernel, by decide +kernel⟩, List.mem_of_getElem? (i := 639) (by decide +kernel), List.mem_of_getElem? (i := 851) (by decide +kernel), List.mem_of_getElem? (i := 852) (by decide +kernel)⟩
theorem lw_p26 : lw_okq (⟨"BellRosterModel", "isNew", "(I)Z"⟩, 18) := ⟨⟨by decide +kernel, by decide +kernel⟩, List.mem_of_getElem? (i := 639) (by decide +kernel), List.mem_of_getElem? (i := 855) (by decide +kernel), List.mem_of_getElem? (i := 856) (by decide +kernel)⟩
theorem lw_p27 : lw_okq (⟨"BellRosterModel", "dodgesOf", "(I)I"⟩, 18) := ⟨⟨by decide +kernel, by decide +kernel⟩, List.mem_of_getElem? (i := 639) (by decide +kernel), List.mem_of_getElem? (i := 859) (by decide +kernel), List.mem_of_getElem? (i := 860) (by decide +kernel)⟩
theorem lw_p28 : lw_okq (⟨"BellRosterModel", "untrue", "()I"⟩, 18) := ⟨⟨by decide +kernel, by decide +kernel⟩, List.mem_of_getElem? (i := 639) (by decide +kernel), List.mem_of_getElem? (i := 863) (by decide +kernel), List.mem_of_getElem? (i := 864) (by decide +kernel)⟩
theorem lw_p29 : lw_okq (⟨"BellRosterModel", "wouldBring", "(III)I"⟩, 18) := ⟨⟨by decide +kernel, by decide +kernel⟩, List.mem_of_getElem? (i := 639) (by decide +kernel), List.mem_of_getElem? (i := 896) (by decide +kernel), List.mem_of_getElem? (i := 897) (by decide +kernel)⟩
theorem lw_p30 : lw_okq (⟨"BellRosterModel", "counted", "(I)I"⟩, 18) := ⟨⟨by decide +kernel, by decide +kernel⟩, List.mem_of_getElem? (i := 639) (by decide +kernel), List.mem_of_getElem? (i := 912) (by decide +kernel), List.mem_of_getElem? (i := 913) (by decide +kernel)⟩
def lw_privs_2 : List (MethodName × Nat) := [(⟨"BellRosterModel", "isRinger", "(I)Z"⟩, 18), (⟨"BellRosterModel", "ringerTold", "(LBellRosterModel$State;II)I"⟩, 18), (⟨"BellRosterModel", "bellTold", "(III)I"⟩, 18), (⟨"BellRosterModel$State", "copy", "([I[I)V"⟩, 6), (⟨"BellRosterModel", "isMethod", "(I)Z"⟩, 18), (⟨"BellRosterModel", "methodTold", "(II)I"⟩, 18), (⟨"BellRosterModel", "walk", "(II)V"⟩, 18), (⟨"BellRosterModel", "walkChanges", "(II)V"⟩, 18), (⟨"BellRosterModel", "code", "()I"⟩, 18), (⟨"BellRosterModel", "course", "(I)I"⟩, 18), (⟨"BellRosterModel", "isNew", "(I)Z"⟩, 18), (⟨"BellRosterModel", "dodgesOf", "(I)I"⟩, 18), (⟨"BellRosterModel", "untrue", "()I"⟩, 18), (⟨"BellRosterModel", "wouldBring", "(III)I"⟩, 18), (⟨"BellRosterModel", "counted", "(I)I"⟩, 18)]
theorem lw_r2 : ∀ q ∈ lw_privs_2, lw_okq q := List.forall_mem_cons.mpr ⟨lw_p16, List.forall_mem_cons.mpr ⟨lw_p17, List.forall_mem_cons.mpr ⟨lw_p18, List.forall_mem_cons.mpr ⟨lw_p19, List.forall_mem_cons.mpr ⟨lw_p20, List.forall_mem_cons.mpr ⟨lw_p21, List.forall_mem_cons.mpr ⟨lw_p22, List.forall_mem_cons.mpr ⟨lw_p23, List.forall_mem_cons.mpr ⟨lw_p24, List.forall_mem_cons.mpr ⟨lw_p25, List.forall_mem_cons.mpr ⟨lw_p26, List.forall_mem_cons.mpr ⟨lw_p27, List.forall_mem_cons.mpr ⟨lw_p28, List.forall_mem_cons.mpr ⟨lw_p29, List.forall_mem_cons.mpr ⟨lw_p30, fun _ h => absurd h List.not_mem_nil⟩⟩⟩⟩⟩⟩⟩⟩⟩⟩⟩⟩⟩⟩⟩
def lw_privs : List (MethodName × Nat) := lw_privs_1 ++ (lw_privs_2)
def lw_tbl : List Cond := k2_sels lw_privs ++ tables_1
theorem lw_privs_ok : ∀ q ∈ lw_privs, lw_okq q := by
  show ∀ q ∈ lw_privs_1 ++ (lw_privs_2), lw_okq q
  exact List.forall_mem_append.mpr ⟨lw_r1, lw_r2⟩
/-- the streams that the claim lets the run draw from -/
abbrev lw_cs : List Choice := [Jvm.Choice.named "NaN.bits"]
theorem lw_bits : nanBits ∈ lw_cs := by first | decide | exact List.mem_cons_self | simp [lw_cs, nanBits]

/-! ===== BEGIN words of one list among another's, by their places ===== -/
theorem goodIn_r {big : List Cond} (ws : List Cond) (ps : List Nat) (hp : ws = ps.filterMap (fun i => big[i]?)) (h : ws.all goodWord = true) : GoodIn big ws := by
  intro w hw
  have h1 := List.all_eq_true.mp h w hw
  rw [hp] at hw
  obtain ⟨i, -, hi⟩ := List.mem_filterMap.mp hw
  have hm : w ∈ big := by first | exact List.mem_of_getElem? hi | exact List.getElem?_mem hi
  exact ⟨hm, good_of_word h1⟩
theorem goodIn_app {big a b : List Cond} (ha : GoodIn big a) (hb : GoodIn big b) : GoodIn big (a ++ b) := fun w h => (List.mem_append.mp h).elim (ha w) (hb w)
theorem goodIn_ca {big a b : List Cond} {c : Cond} (ha : GoodIn big (c :: a)) (hb : GoodIn big b) : GoodIn big (c :: (a ++ b)) := fun w h => (List.mem_cons.mp h).elim (fun e => ha w (List.mem_cons.mpr (Or.inl e))) (fun h => (List.mem_append.mp h).elim (fun h => ha w (List.mem_cons.mpr (Or.inr h))) (hb w))
theorem goodIn_sub {big ws : List Cond} (hm : ∀ w ∈ ws, w ∈ big) (h : ws.all goodWord = true) : GoodIn big ws := fun w hw => ⟨hm w hw, good_of_word (List.all_eq_true.mp h w hw)⟩
/-! ===== END ===== -/

/-! ===== BEGIN exceptions that leave a method, and their catching by the caller (launches without stack traces) ===== -/
section VXA
/-! The laws vx_back, vx_callV, vx_callS, vx_callSW, vx_throw0, vx_throwS follow proofs of the library, with one case more: JvmDerived/Free/Laws.lean (Back.of_free), Shelf42/LK1.lean (callV, callS), Shelf/KitTraced.lean (throwNew0V, throwNewS). -/
/-- where a method has thrown q: the class by its name, the cell, what was written, the world -/
def vx_T (XC : String → State → State → Prop) (st : State) (q : Addr) (t : State) (mc ms : Nat) (free : Addr → Prop) : Prop :=
  ∃ (E : String) (ce : Cell) (L : List Loc), XC E st t ∧ t.heap[q]? = some ce ∧ ce.vm = .none ∧ st.vm.findClass E = some ce.cls ∧ st.WarmedH t.vm ∧ st.sameButNew ({ t with vm := st.vm } : State) L mc ms ∧ ∀ z ∈ L, free z.base
def vx_Q (Qc : Array Value → State → Outcome → State → Prop) (XC : String → State → State → Prop) (mc ms : Nat) (free : Addr → Prop) : Array Value → State → Outcome → State → Prop := fun a st o t =>
  (Qc a st o t ∧ ∃ L, FrameEnd st o t L mc ms ∧ ∀ q ∈ L, free q.base) ∨ ∃ q, o = .threw q ∧ vx_T XC st q t mc ms free
/-- a callee that returns or throws -/
def vx_Met (l : Launch) (y : MethodName) (ws : List Cond) (rm : Room) (Pc : Array Value → State → Prop) (Qc : Array Value → State → Outcome → State → Prop) (XC : String → State → State → Prop) (mc ms : Nat) (free : Addr → Prop) : Prop :=
  MetFree l y (headSpec ws rm) Pc (fun _ _ _ _ _ => True) (vx_Q Qc XC mc ms free)
def vx_Post (XC : String → State → State → Prop) (mc ms : Nat) (free : Addr → Prop) : Pt → Array Value → Addr → Pt → Prop := fun A a q B =>
  ∃ (g : JFrame) (mk : MethodId) (t : State) (L : List Loc) (E : String) (ce : Cell), B.U.heap = t.heap ∧ B.U.vm = t.vm ∧ XC E (A.U.calling g mk a) t ∧ t.heap[q]? = some ce ∧ ce.vm = .none ∧ A.U.vm.findClass E = some ce.cls ∧ B.locs = A.locs ++ L ∧ (∀ z ∈ L, free z.base) ∧ B.cells = A.cells + mc ∧ B.slots = A.slots + ms
def vx_Back (l : Launch) (R : Room) (p : Program) (e : Env) (below : List Frame) (s : State) (sargs : Array Value) (y : MethodName) (len W9 : Nat)
    (Pre : Pt → Array Value → Prop) (Post : Pt → Array Value → Option Value → Pt → Prop) (PostX : Pt → Array Value → Addr → Pt → Prop) : Prop :=
  ∀ (m : MethodId) (meth : Method) (c : Code) (A : Pt) (g : JFrame) (ig : Instr) (mk : MethodId) (a : Array Value),
    Stand p l e R s m sargs below meth c A.U A.locs A.cells A.slots → g.method = m → g.locals.size = c.maxLocals → decode c.code g.pc = .ok (ig, len) →
    2 * g.monitorRoom + (g.stack.map fun v => v.category).sum ≤ W9 → A.U.methodNamed? y = some mk → Pre A a →
    (∃ (v : Option Value) (B : Pt), Stand p l e R s m sargs below meth c B.U B.locs B.cells B.slots ∧ Post A a v B ∧
      Steps p.tables e below (doInvoke e (A.U.setTop g) [] mk a).1 (B.U.setTop { g with pc := g.pc + len, stack := v.toList ++ g.stack })) ∨
    (∃ (q : Addr) (B : Pt), Stand p l e R s m sargs below meth c B.U B.locs B.cells B.slots ∧ PostX A a q B ∧
      Steps p.tables e below (doInvoke e (A.U.setTop g) [] mk a).1 ((B.U.setTop g).pushFrame (.throwing q)))
section Payer
variable {l : Launch} {R : Room} {p : Program} {e : Env} {below : List Frame} {s : State} {sargs : Array Value} {y : MethodName} {len W9 : Nat}
theorem vx_back {ws : List Cond} {rm : Room} {Pc : Array Value → State → Prop} {Qc : Array Value → State → Outcome → State → Prop} {XC : String → State → State → Prop} {mc ms : Nat} {free : Addr → Prop} {bytes : ByteArray} {maxL : Nat} {ret : Option FieldType}
    (hM : vx_Met l y ws rm Pc Qc XC mc ms free) (hblind : FrameBlind Pc) (hrc : rm.cells = mc) (hrs : rm.slots = ms)
    (hframes : rm.frames + 1 ≤ R.frames) (hlocals : W9 + (maxL + 11) + rm.locals ≤ R.locals)
    (hws : ∀ w ∈ ws, ∀ a' U, s.WarmedH U.vm → w.before a' U = true) (hcode : Cond.code y bytes maxL ret ∈ ws) (hinit : ∀ a' U, s.WarmedH U.vm → (Cond.initialized y.cls).before a' U = true) :
    vx_Back l R p e below s sargs y len W9 (PreOf R mc ms Pc) (PostOf Qc mc ms free) (vx_Post XC mc ms free) := by
  intro m meth c A g ig mk a X hg hsize hdg hW hn hp
  have h1 : (headSpec ws rm).pre.before a A.U = true := atoms_intro fun w hw => hws w hw _ _ X.warmed
  have h2 : (Cond.code y bytes maxL ret).before a A.U = true := hws _ hcode _ _ X.warmed
  have h3 : (Cond.initialized y.cls).before a A.U = true := hinit _ _ X.warmed
  have h4 : A.cells + (headSpec ws rm).room.cells ≤ R.cells := by rw [show (headSpec ws rm).room.cells = mc from hrc]; exact hp.1
  have h5 : A.slots + (headSpec ws rm).room.slots ≤ R.slots := by rw [show (headSpec ws rm).room.slots = ms from hrs]; exact hp.2.1
  have hPc : Pc a (A.U.calling g mk a) := hblind _ _ _ _ hp.2.2
  obtain ⟨U, Ls, c0, s0⟩ := A
  dsimp only [Pt.U, Pt.locs, Pt.cells, Pt.slots] at h1 h2 h3 h4 h5 X hn hPc ⊢
  obtain ⟨methY, cY, hmY, hcY, -, hlY, -, -, -, -⟩ := Cond.code_spec hn h2
  obtain ⟨kY, hkY, -⟩ := className_of_methodNamed hn
  have hinitY : kY.init = .initialized := Cond.initialized_spec (findClass_of_methodNamed hn) hkY h3
  have h : At U g.method c below := by rw [hg]; exact X.here
  have hlocals9 : W9 + (maxL + 11) + (headSpec ws rm).room.locals ≤ R.locals := hlocals
  have happ : (headSpec ws rm).appliesLoose y e.platform (U.calling g mk a) = true :=
    Spec.appliesLoose_calling (g := g) h hdg hn hkY hinitY
      (X.room_calling (g := g) (R' := (headSpec ws rm).room) hsize hmY hcY hframes (by rw [hlY]; omega) h4 h5) h1
  obtain ⟨mid, hmid⟩ := h.above
  have hfr : (U.setTop g).frames = (.java g :: mid) ++ below := by rw [State.frames_setTop' g h.top, hmid]; rfl
  obtain ⟨o, s₂, hsteps, -, hend, hq⟩ := Steps.callFree hM p X.admits X.cas X.clock (acts := []) hfr happ hPc trivial
  have hq' : vx_Q Qc XC mc ms free a (U.calling g mk a) o s₂ := hq
  rw [State.frames_setTop' g h.top] at hend
  obtain ⟨g₀, hg0⟩ := Option.isSome_iff_exists.mp h.top
  obtain ⟨r, hr⟩ := State.topJava?_eq_some.mp hg0
  have hr' : (({ U with heap := s₂.heap, slotsUsed := s₂.slotsUsed } : State).setVm s₂.vm).frames = .java g₀ :: r := hr
  rcases hq' with ⟨hqc, L, hfe, hL⟩ | ⟨q, rfl, E, ce, L, hx, hce, hcv, hcl, hW₂, hsm, hL⟩
  · obtain ⟨⟨v, rfl⟩, hW₂, e2, q2, q3, q4, q5, q6⟩ := id hfe
    have e3 : s₂ = ({ (U.calling g mk a).setFrames s₂.frames with heap := s₂.heap, slotsUsed := s₂.slotsUsed } : State).setVm s₂.vm := by
      have : s₂ = ({ s₂ with vm := (U.calling g mk a).vm } : State).setVm s₂.vm := rfl
      rw [e2] at this
      exact this
    obtain ⟨c₂, i₂, len₂, hc₂, hd₂, hf₂⟩ := hend
    have hW' : U.WarmedH s₂.vm := hW₂
    have hcc : c₂ = c := by
      have h1 : s₂.code? g.method = U.code? g.method := by
        rw [State.code?_eq, State.code?_eq, hW'.alike.method?]
      exact Option.some.inj (hc₂.symm.trans (h1.trans h.code))
    subst hcc
    have hlen : len₂ = len := by rw [hdg] at hd₂; cases hd₂; rfl
    subst hlen
    have hs₂ : s₂ = (({ U with heap := s₂.heap, slotsUsed := s₂.slotsUsed } : State).setVm s₂.vm).setTop { g with pc := g.pc + len₂, stack := v.toList ++ g.stack } := by
      refine e3.trans ?_
      rw [hf₂, State.calling_eq h.top, State.setFrames_setFrames, State.setTop_of_frames _ hr', hr]
      rfl
    have hsame : U.sameButNew ({ U with heap := s₂.heap, slotsUsed := s₂.slotsUsed } : State) L mc ms := by
      refine ⟨?_, q2, q3, q4, q5, q6⟩
      obtain ⟨t, ht, -⟩ := State.frames_cons hr
      show ({ U with heap := s₂.heap, slotsUsed := s₂.slotsUsed } : State) = { U.setFrames U.frames with heap := s₂.heap, slotsUsed := s₂.slotsUsed }
      rw [State.setFrames_self ht]
    subst hg
    refine Or.inl ⟨v, ⟨(({ U with heap := s₂.heap, slotsUsed := s₂.slotsUsed } : State).setVm s₂.vm), Ls ++ L, c0 + mc, s0 + ms⟩,
      ⟨X.admits, X.cas, X.clock, X.frames, X.room, X.hears, X.method, X.code, (X.here.setHeapUsed s₂.heap s₂.slotsUsed).setVm hW'.alike, X.tail, State.WarmedH.trans X.warmed hW', X.limits, X.bytes, X.same.trans (hsame.setVm s.vm)⟩,
      ⟨g, mk, s₂, L, rfl, rfl, hqc, rfl, hL, rfl, rfl⟩, ?_⟩
    show Steps p.tables e below _ ((({ U with heap := s₂.heap, slotsUsed := s₂.slotsUsed } : State).setVm s₂.vm).setTop { g with pc := g.pc + len₂, stack := v.toList ++ g.stack })
    rw [← hs₂]
    exact hsteps
  · obtain ⟨e2, q2, q3, q4, q5, q6⟩ := id hsm
    have e3 : s₂ = ({ (U.calling g mk a).setFrames s₂.frames with heap := s₂.heap, slotsUsed := s₂.slotsUsed } : State).setVm s₂.vm := by
      have : s₂ = ({ s₂ with vm := (U.calling g mk a).vm } : State).setVm s₂.vm := rfl
      rw [e2] at this
      exact this
    have hf₂ : s₂.frames = .throwing q :: .java g :: U.frames.tail := hend
    have hW' : U.WarmedH s₂.vm := hW₂
    have hs₂ : s₂ = ((({ U with heap := s₂.heap, slotsUsed := s₂.slotsUsed } : State).setVm s₂.vm).setTop g).pushFrame (.throwing q) := by
      refine e3.trans ?_
      rw [hf₂, State.calling_eq h.top, State.setFrames_setFrames, State.pushFrame, State.frames_setTop _ hr', State.setTop_of_frames _ hr', State.setFrames_setFrames, hr]
      rfl
    have hsame : U.sameButNew ({ U with heap := s₂.heap, slotsUsed := s₂.slotsUsed } : State) L mc ms := by
      refine ⟨?_, q2, q3, q4, q5, q6⟩
      obtain ⟨t, ht, -⟩ := State.frames_cons hr
      show ({ U with heap := s₂.heap, slotsUsed := s₂.slotsUsed } : State) = { U.setFrames U.frames with heap := s₂.heap, slotsUsed := s₂.slotsUsed }
      rw [State.setFrames_self ht]
    subst hg
    refine Or.inr ⟨q, ⟨(({ U with heap := s₂.heap, slotsUsed := s₂.slotsUsed } : State).setVm s₂.vm), Ls ++ L, c0 + mc, s0 + ms⟩,
      ⟨X.admits, X.cas, X.clock, X.frames, X.room, X.hears, X.method, X.code, (X.here.setHeapUsed s₂.heap s₂.slotsUsed).setVm hW'.alike, X.tail, State.WarmedH.trans X.warmed hW', X.limits, X.bytes, X.same.trans (hsame.setVm s.vm)⟩,
      ⟨g, mk, s₂, L, E, ce, rfl, rfl, hx, hce, hcv, hcl, rfl, hL, rfl, rfl⟩, ?_⟩
    show Steps p.tables e below _ (((({ U with heap := s₂.heap, slotsUsed := s₂.slotsUsed } : State).setVm s₂.vm).setTop g).pushFrame (.throwing q))
    rw [← hs₂]
    exact hsteps
end Payer
section Calls
variable {p : Program} {l : Launch} {e : Env} {R : Room} {s : State} {m : MethodId} {args : Array Value} {below : List Frame} {meth : Method} {c : Code} {T : State} {locs : List Loc} {cells slots : Nat}
theorem vx_callV (X : Stand p l e R s m args below meth c T locs cells slots) (hexec : p.tables.exec = Jvm.exec) {own C : String} {index : Nat} {y : MethodName} {bytes : ByteArray} {maxL : Nat} {ret : Option FieldType}
    (hown : s.vm.findClass own = some m.cls) (hlink : (Cond.methodLink own index y).before args s = true) (hinst : (Cond.instanceMethod y).before args s = true) (hsel : (Cond.selects C y y).before args s = true)
    (hcode : (Cond.code y bytes maxL ret).before args s = true) (hy : y.cls ≠ "java/lang/invoke/MethodHandle" ∧ y.cls ≠ "java/lang/invoke/VarHandle")
    {W9 : Nat} {Pre : Pt → Array Value → Prop} {Post : Pt → Array Value → Option Value → Pt → Prop} {PostX : Pt → Array Value → Addr → Pt → Prop} (hK : vx_Back l R p e below s args y 3 W9 Pre Post PostX)
    {b : Addr} {cellB : Cell} (hcell : T.heap[b]? = some cellB) (hobj : cellB.vm.isStatics = false) (hcls : s.vm.findClass C = some cellB.cls)
    {g : JFrame} (hg : g.method = m) (hsize : g.locals.size = c.maxLocals) {argsL rest : List Value} (hlen : ∀ sig, parseMethodDescriptor y.desc = some sig → argsL.length = sig.parameters.length)
    (hstack : g.stack = argsL.reverse ++ .ref b :: rest) (hW : 2 * g.monitorRoom + (rest.map fun v => v.category).sum ≤ W9) (hdg : decode c.code g.pc = .ok (.invokevirtual index, 3))
    (hpre : ∀ vm₁, s.WarmedH vm₁ → Pre ⟨T.setVm vm₁, locs, cells, slots⟩ (Value.ref b :: argsL).toArray) :
    (∃ (v : Option Value) (vm₁ : Vm) (B : Pt), s.WarmedH vm₁ ∧ Stand p l e R s m args below meth c B.U B.locs B.cells B.slots ∧ Post ⟨T.setVm vm₁, locs, cells, slots⟩ (Value.ref b :: argsL).toArray v B ∧
      ∀ target, Steps p.tables e below (B.U.setTop { g with pc := g.pc + 3, stack := v.toList ++ rest }) target → Steps p.tables e below (T.setTop g) target) ∨
    (∃ (q : Addr) (vm₁ : Vm) (B : Pt), s.WarmedH vm₁ ∧ Stand p l e R s m args below meth c B.U B.locs B.cells B.slots ∧ PostX ⟨T.setVm vm₁, locs, cells, slots⟩ (Value.ref b :: argsL).toArray q B ∧
      Steps p.tables e below (T.setTop g) ((B.U.setTop { g with stack := rest }).pushFrame (.throwing q))) := by
  obtain ⟨mk, methM, hnamed, hmethM, hstM, habM⟩ := Cond.instanceMethod_spec hinst
  obtain ⟨methM', cM, hmethM', -, -, -, -, -, -, hsigM⟩ := Cond.code_spec hnamed hcode
  cases hmethM.symm.trans hmethM'
  obtain ⟨c2, r2, m2, q1, q2, q3, q4, kP, hkP, hkPi⟩ := Cond.selects_spec hsel
  cases hcls.symm.trans q1
  cases (State.methodFound?_of_named hnamed hy).symm.trans q2
  cases hnamed.symm.trans q3
  have hselP : selectMethod e.platform s.vm cellB.cls mk = .method mk := by rw [Launch.admits_selectMethod X.admits]; exact q4
  obtain ⟨vm₁, X₁, hstep₁⟩ := X.invokevirtual hexec hown hlink hnamed hmethM hstM hkP hkPi hy (a := b) (cell := cellB) hcell
    (fun z h => by rw [h] at hobj; cases hobj) hselP hmethM habM hkP hkPi (g := g) hg (argsL := argsL) (rest := rest) (hlen _ hsigM) hstack hdg
  rcases hK m meth c ⟨T.setVm vm₁, locs, cells, slots⟩ { g with stack := rest } (.invokevirtual index) mk (Value.ref b :: argsL).toArray X₁ hg hsize hdg hW (X₁.named hnamed) (hpre vm₁ X₁.warmed) with ⟨v, B, X', hpost, hsteps⟩ | ⟨q, B, X', hpost, hsteps⟩
  · exact Or.inl ⟨v, vm₁, B, X₁.warmed, X', hpost, fun target h => hstep₁ _ fun acts => by rw [doInvoke_state]; exact hsteps.trans h⟩
  · exact Or.inr ⟨q, vm₁, B, X₁.warmed, X', hpost, hstep₁ _ fun acts => by rw [doInvoke_state]; exact hsteps⟩
theorem vx_callS (X : Stand p l e R s m args below meth c T locs cells slots) (hexec : p.tables.exec = Jvm.exec) {own : String} {index : Nat} {y : MethodName} {bytes : ByteArray} {maxL : Nat} {ret : Option FieldType}
    (hown : s.vm.findClass own = some m.cls) (hlink : (Cond.methodLink own index y).before args s = true) (hstat : (Cond.static y).before args s = true) (hinit : (Cond.initialized y.cls).before args s = true)
    (hcode : (Cond.code y bytes maxL ret).before args s = true) (hy : y.cls ≠ "java/lang/invoke/MethodHandle" ∧ y.cls ≠ "java/lang/invoke/VarHandle")
    {W9 : Nat} {Pre : Pt → Array Value → Prop} {Post : Pt → Array Value → Option Value → Pt → Prop} {PostX : Pt → Array Value → Addr → Pt → Prop} (hK : vx_Back l R p e below s args y 3 W9 Pre Post PostX)
    {g : JFrame} (hg : g.method = m) (hsize : g.locals.size = c.maxLocals) {argsL rest : List Value} (hlen : ∀ sig, parseMethodDescriptor y.desc = some sig → argsL.length = sig.parameters.length)
    (hstack : g.stack = argsL.reverse ++ rest) (hW : 2 * g.monitorRoom + (rest.map fun v => v.category).sum ≤ W9) (hdg : decode c.code g.pc = .ok (.invokestatic index, 3))
    (hpre : ∀ vm₁, s.WarmedH vm₁ → Pre ⟨T.setVm vm₁, locs, cells, slots⟩ argsL.toArray) :
    (∃ (v : Option Value) (vm₁ : Vm) (B : Pt), s.WarmedH vm₁ ∧ Stand p l e R s m args below meth c B.U B.locs B.cells B.slots ∧ Post ⟨T.setVm vm₁, locs, cells, slots⟩ argsL.toArray v B ∧
      ∀ target, Steps p.tables e below (B.U.setTop { g with pc := g.pc + 3, stack := v.toList ++ rest }) target → Steps p.tables e below (T.setTop g) target) ∨
    (∃ (q : Addr) (vm₁ : Vm) (B : Pt), s.WarmedH vm₁ ∧ Stand p l e R s m args below meth c B.U B.locs B.cells B.slots ∧ PostX ⟨T.setVm vm₁, locs, cells, slots⟩ argsL.toArray q B ∧
      Steps p.tables e below (T.setTop g) ((B.U.setTop { g with stack := rest }).pushFrame (.throwing q))) := by
  obtain ⟨mk, hnamed⟩ := Cond.code_named hcode
  obtain ⟨methM, cM, hmethM, -, -, -, -, -, -, hsigM⟩ := Cond.code_spec hnamed hcode
  have hstatic : methM.isStatic = true := Cond.static_spec hnamed hmethM hstat
  obtain ⟨kP, hkP, -⟩ := className_of_methodNamed hnamed
  have hinitP : kP.init = .initialized := Cond.initialized_spec (findClass_of_methodNamed hnamed) hkP hinit
  obtain ⟨vm₁, X₁, hstep₁⟩ := X.invokestatic hexec hown hlink hnamed hmethM hstatic hkP hinitP hy (g := g) hg (argsL := argsL) (rest := rest) (hlen _ hsigM) hstack hdg
  rcases hK m meth c ⟨T.setVm vm₁, locs, cells, slots⟩ { g with stack := rest } (.invokestatic index) mk argsL.toArray X₁ hg hsize hdg hW (X₁.named hnamed) (hpre vm₁ X₁.warmed) with ⟨v, B, X', hpost, hsteps⟩ | ⟨q, B, X', hpost, hsteps⟩
  · exact Or.inl ⟨v, vm₁, B, X₁.warmed, X', hpost, fun target h => hstep₁ _ fun acts => by rw [doInvoke_state]; exact hsteps.trans h⟩
  · exact Or.inr ⟨q, vm₁, B, X₁.warmed, X', hpost, hstep₁ _ fun acts => by rw [doInvoke_state]; exact hsteps⟩
end Calls
theorem vx_cls {s : State} {T : State} {vm₁ : Vm} {E : String} {k : ClassId} (hW : s.WarmedH vm₁) (h : (T.setVm vm₁).vm.findClass E = some k) : s.vm.findClass E = some k := by
  have h1 : vm₁.findClass E = some k := h
  rw [hW.alike.findClass] at h1
  exact h1
/-- the method's frame g, with q thrown over it -/
def vx_W (p : Program) (l : Launch) (e : Env) (R : Room) (s : State) (m : MethodId) (args : Array Value) (below : List Frame) (meth : Method) (c : Code) (H : Heap) (locs : List Loc) (cells slots : Nat) (Q : State → Prop) (g : JFrame) (q : Addr) : Prop :=
  ∀ T : State, T.heap = H → Stand p l e R s m args below meth c T locs cells slots → ∃ t, Steps p.tables e below ((T.setTop g).pushFrame (.throwing q)) t ∧ Q t
def vx_Run (p : Program) (l : Launch) (e : Env) (R : Room) (s : State) (m : MethodId) (args : Array Value) (below : List Frame) (meth : Method) (c : Code) (H : Heap) (locs : List Loc) (cells slots mc ms : Nat) (g : JFrame) (rest : List Value) (Qa : State → Outcome → State → Prop) (XC : String → State → State → Prop) (free : Addr → Prop) : Prop :=
  ∀ T : State, T.heap = H → Stand p l e R s m args below meth c T locs cells slots →
    (∃ (v : Option Value) (st₀ t T' : State) (L : List Loc), st₀.heap = H ∧ Stand p l e R s m args below meth c T' (locs ++ L) (cells + mc) (slots + ms) ∧ (∀ q ∈ L, free q.base) ∧ T'.heap = t.heap ∧ T'.vm = t.vm ∧ Qa st₀ (.returned v) t ∧
      Goes p e below T g T' { g with pc := g.pc + 3, stack := v.toList ++ rest }) ∨
    (∃ (q : Addr) (st₀ t T' : State) (L : List Loc) (E : String) (ce : Cell), st₀.heap = H ∧ Stand p l e R s m args below meth c T' (locs ++ L) (cells + mc) (slots + ms) ∧ (∀ z ∈ L, free z.base) ∧ T'.heap = t.heap ∧ T'.vm = t.vm ∧ XC E st₀ t ∧ t.heap[q]? = some ce ∧ ce.vm = .none ∧ s.vm.findClass E = some ce.cls ∧
      Steps p.tables e below (T.setTop g) ((T'.setTop { g with stack := rest }).pushFrame (.throwing q)))
def vx_X {S : Type} (px : S → Prop) (B : String → S → State → Prop) (A : Nat → Prop) : String → State → State → Prop := fun E st t => ∃ u : S, px u ∧ B E u t ∧ va_F A st t
section Runs
variable {p : Program} {l : Launch} {e : Env} {R : Room} {s : State} {m : MethodId} {args : Array Value} {below : List Frame} {meth : Method} {c : Code} {H : Heap} {locs : List Loc} {cells slots : Nat}
variable {y : MethodName} {bytes cc : ByteArray} {maxL nL mc ms n index : Nat} {ret : Option FieldType} {ws : List Cond} {rm : Room} {Pc : Array Value → State → Prop} {Qc : Array Value → State → Outcome → State → Prop} {XC : String → State → State → Prop} {free : Addr → Prop} {Ts : List Cond} {own C : String} {b : Addr} {As rest : List Value} {g : JFrame}
theorem vx_callBack (cb : CallB R s args own index y bytes maxL ret ws rm mc ms n) (hM : vx_Met l y ws rm Pc Qc XC mc ms free) (hbl : FrameBlind Pc) : vx_Back l R p e below s args y 3 8 (PreOf R mc ms Pc) (PostOf Qc mc ms free) (vx_Post XC mc ms free) := by
  obtain ⟨hrc, hrs, hfr, hlo, hws, hcw, -, hini, -⟩ := cb
  exact vx_back (bytes := bytes) (maxL := maxL) (ret := ret) hM hbl hrc hrs hfr hlo hws hcw (fun a' U hW => word_at hW (Or.inl (by first | rfl | simp [Cond.onTables, Cond.keeps, Cond.steady])) hini)
theorem vx_runV (S : CallFix p m c cc nL s args Ts own) (hM : vx_Met l y ws rm Pc Qc XC mc ms free) (cw : CallW R s args own C index y bytes maxL ret ws rm mc ms n) (hp : PreV s H C b Pc As)
    (hg : g.method = m) (hn : As.length = n) (hsize : g.locals.size = nL) (hstack : g.stack = As.reverse ++ .ref b :: rest) (hW : 2 * g.monitorRoom + (rest.map fun v => v.category).sum ≤ 8) (hdg : decode cc g.pc = .ok (.invokevirtual index, 3)) (hf : cells + mc ≤ R.cells ∧ slots + ms ≤ R.slots) :
    vx_Run p l e R s m args below meth c H locs cells slots mc ms g rest (Qc (Value.ref b :: As).toArray) XC free := by
  have hK : vx_Back l R p e below s args y 3 8 (PreOf R mc ms Pc) (PostOf Qc mc ms free) (vx_Post XC mc ms free) := vx_callBack cw.1 hM hp.1
  obtain ⟨⟨-, -, -, -, -, -, hcode, -, hy, hlen, hl⟩, hin, hse⟩ := cw
  obtain ⟨hx, hb, hml, ho, -⟩ := S
  obtain ⟨-, ⟨cellB, hcB, hoB, hclB⟩, hPc⟩ := hp
  intro T hT X
  rcases vx_callV X hx (C := C) (bytes := bytes) (maxL := maxL) (ret := ret) ho hl hin hse hcode hy hK (by rw [hT]; exact hcB) hoB hclB hg (hsize.trans hml.symm) (argsL := As) (rest := rest) (fun sig h => hn.trans (hlen sig h)) hstack hW (by rw [hb]; exact hdg)
    (fun vm₁ hW₁ => ⟨hf.1, hf.2, hPc (T.setVm vm₁) hT hW₁⟩) with ⟨v, vm₁, ⟨U', l2, c2, s2⟩, hW₁, X', ⟨g', mk, t, L, e1, e2, hq, h1, hL, h2, h3⟩, st⟩ | ⟨q, vm₁, ⟨U', l2, c2, s2⟩, hW₁, X', ⟨g', mk, t, L, E, ce, e1, e2, hq, hce, hcv, hcl, h1, hL, h2, h3⟩, st⟩
  · dsimp only [Pt.U, Pt.locs, Pt.cells, Pt.slots] at X' e1 e2 h1 h2 h3 st
    subst h1; subst h2; subst h3
    exact Or.inl ⟨v, (T.setVm vm₁).calling g' mk (Value.ref b :: As).toArray, t, U', L, hT, X', hL, e1, e2, hq, st⟩
  · dsimp only [Pt.U, Pt.locs, Pt.cells, Pt.slots] at X' e1 e2 h1 h2 h3 st hcl
    subst h1; subst h2; subst h3
    exact Or.inr ⟨q, (T.setVm vm₁).calling g' mk (Value.ref b :: As).toArray, t, U', L, E, ce, hT, X', hL, e1, e2, hq, hce, hcv, vx_cls hW₁ hcl, st⟩
theorem vx_runS (S : CallFix p m c cc nL s args Ts own) (hM : vx_Met l y ws rm Pc Qc XC mc ms free) (cw : CallB R s args own index y bytes maxL ret ws rm mc ms n ∧ (Cond.static y).before args s = true) (hp : PreS s H Pc As)
    (hg : g.method = m) (hn : As.length = n) (hsize : g.locals.size = nL) (hstack : g.stack = As.reverse ++ rest) (hW : 2 * g.monitorRoom + (rest.map fun v => v.category).sum ≤ 8) (hdg : decode cc g.pc = .ok (.invokestatic index, 3)) (hf : cells + mc ≤ R.cells ∧ slots + ms ≤ R.slots) :
    vx_Run p l e R s m args below meth c H locs cells slots mc ms g rest (Qc As.toArray) XC free := by
  have hK : vx_Back l R p e below s args y 3 8 (PreOf R mc ms Pc) (PostOf Qc mc ms free) (vx_Post XC mc ms free) := vx_callBack cw.1 hM hp.1
  obtain ⟨⟨-, -, -, -, -, -, hcode, hini, hy, hlen, hl⟩, hstt⟩ := cw
  obtain ⟨hx, hb, hml, ho, -⟩ := S
  intro T hT X
  rcases vx_callS X hx (bytes := bytes) (maxL := maxL) (ret := ret) ho hl hstt hini hcode hy hK hg (hsize.trans hml.symm) (argsL := As) (rest := rest) (fun sig h => hn.trans (hlen sig h)) hstack hW (by rw [hb]; exact hdg)
    (fun vm₁ hW₁ => ⟨hf.1, hf.2, hp.2 (T.setVm vm₁) hT hW₁⟩) with ⟨v, vm₁, ⟨U', l2, c2, s2⟩, hW₁, X', ⟨g', mk, t, L, e1, e2, hq, h1, hL, h2, h3⟩, st⟩ | ⟨q, vm₁, ⟨U', l2, c2, s2⟩, hW₁, X', ⟨g', mk, t, L, E, ce, e1, e2, hq, hce, hcv, hcl, h1, hL, h2, h3⟩, st⟩
  · dsimp only [Pt.U, Pt.locs, Pt.cells, Pt.slots] at X' e1 e2 h1 h2 h3 st
    subst h1; subst h2; subst h3
    exact Or.inl ⟨v, (T.setVm vm₁).calling g' mk As.toArray, t, U', L, hT, X', hL, e1, e2, hq, st⟩
  · dsimp only [Pt.U, Pt.locs, Pt.cells, Pt.slots] at X' e1 e2 h1 h2 h3 st hcl
    subst h1; subst h2; subst h3
    exact Or.inr ⟨q, (T.setVm vm₁).calling g' mk As.toArray, t, U', L, E, ce, hT, X', hL, e1, e2, hq, hce, hcv, vx_cls hW₁ hcl, st⟩
end Runs
section Rows
variable {p : Program} {l : Launch} {e : Env} {R : Room} {s : State} {m : MethodId} {args : Array Value} {below : List Frame} {meth : Method} {c : Code} {H : Heap} {locs : List Loc} {cells slots : Nat} {Q : State → Prop}
variable {mc ms : Nat} {free : Addr → Prop} {A0 A1 : Nat → Prop} {H0 : Heap} {a : Array Value} {pc : Nat} {ls : Array Slot} {st0 rest : List Value}
theorem vx_keep {st₀ t T' : State} {L : List Loc} (h0 : st₀.heap = H) (e1 : T'.heap = t.heap) (hS : va_S A0 H0 H locs) (hA : ∀ q, q < H.size → A1 q → A0 q) (hf : ∀ q, free q → A0 q) (hL : ∀ q ∈ L, free q.base) (hF : va_F A1 st₀ t) :
    H.size ≤ T'.heap.size ∧ (∀ q : Nat, q < H.size → ¬ A1 q → T'.heap[q]? = H[q]?) ∧ va_S A0 H0 T'.heap (locs ++ L) := by
  obtain ⟨hz, hk⟩ := hF
  rw [h0] at hz hk
  exact ⟨by rw [e1]; exact hz, fun q h1 h2 => by rw [e1]; exact hk q h1 h2,
    ⟨Nat.le_trans hS.1 (by rw [e1]; exact hz), fun q h1 h2 => by rw [e1, hk q (Nat.lt_of_lt_of_le h1 hS.1) (fun z => h2 (hA q (Nat.lt_of_lt_of_le h1 hS.1) z))]; exact hS.2.1 q h1 h2, fun q hq => by
      rcases List.mem_append.mp hq with h | h
      · exact hS.2.2 q h
      · exact hf _ (hL q h)⟩⟩
theorem vx_calli {S SX : Type} {post : Int32 → S → Prop} {px : SX → Prop} {B : S → State → Prop} {BX : String → SX → State → Prop} {AX : Nat → Prop} (hr : vx_Run p l e R s m args below meth c H locs cells slots mc ms (F0 m pc ls st0) rest (va_Qi post B A1 a) (vx_X px BX AX) free) (hS : va_S A0 H0 H locs) (hA : ∀ q, q < H.size → A1 q → A0 q) (hf : ∀ q, free q → A0 q) (hAX : ∀ q, q < H.size → AX q → A0 q)
    (kx : ∀ (E : String) (ce : Cell) (q9 : Addr) (u : SX) (t : State) (H1 : Heap) (locs1 : List Loc), t.heap = H1 → s.vm.Alike t.vm → px u → BX E u t → H.size ≤ H1.size → (∀ q : Nat, q < H.size → ¬ AX q → H1[q]? = H[q]?) → va_S A0 H0 H1 locs1 → H1[q9]? = some ce → ce.vm = .none → s.vm.findClass E = some ce.cls → vx_W p l e R s m args below meth c H1 locs1 (cells + mc) (slots + ms) Q (F0 m pc ls rest) q9)
    (kk : ∀ (r : Int32) (u : S) (t : State) (H1 : Heap) (locs1 : List Loc), t.heap = H1 → s.vm.Alike t.vm → post r u → B u t → H.size ≤ H1.size → (∀ q : Nat, q < H.size → ¬ A1 q → H1[q]? = H[q]?) → va_S A0 H0 H1 locs1 → W p l e R s m args below meth c H1 locs1 (cells + mc) (slots + ms) Q (F0 m (pc + 3) ls (.int r :: rest))) : W p l e R s m args below meth c H locs cells slots Q (F0 m pc ls st0) := by
  intro T hT X
  rcases hr T hT X with ⟨v, st₀, t, T', L, h0, X', hL, e1, e2, ⟨⟨r, u, hv, hp, hb⟩, hF⟩, st⟩ | ⟨q, st₀, t, T', L, E, ce, h0, X', hL, e1, e2, ⟨u, hp, hb, hF⟩, hce, hcv, hcl, st⟩
  · cases hv
    obtain ⟨k1, k2, k3⟩ := vx_keep h0 e1 hS hA hf hL hF
    obtain ⟨t2, a1, b1⟩ := kk r u t T'.heap (locs ++ L) e1.symm (by rw [← e2]; exact X'.warmed.alike) hp hb k1 k2 k3 T' rfl X'
    exact ⟨t2, st t2 a1, b1⟩
  · obtain ⟨k1, k2, k3⟩ := vx_keep h0 e1 hS hAX hf hL hF
    obtain ⟨t2, a1, b1⟩ := kx E ce q u t T'.heap (locs ++ L) e1.symm (by rw [← e2]; exact X'.warmed.alike) hp hb k1 k2 k3 (by rw [e1]; exact hce) hcv hcl T' rfl X'
    exact ⟨t2, st.trans a1, b1⟩
theorem vx_calll {S SX : Type} {post : Int64 → S → Prop} {px : SX → Prop} {B : S → State → Prop} {BX : String → SX → State → Prop} {AX : Nat → Prop} (hr : vx_Run p l e R s m args below meth c H locs cells slots mc ms (F0 m pc ls st0) rest (va_Ql post B A1 a) (vx_X px BX AX) free) (hS : va_S A0 H0 H locs) (hA : ∀ q, q < H.size → A1 q → A0 q) (hf : ∀ q, free q → A0 q) (hAX : ∀ q, q < H.size → AX q → A0 q)
    (kx : ∀ (E : String) (ce : Cell) (q9 : Addr) (u : SX) (t : State) (H1 : Heap) (locs1 : List Loc), t.heap = H1 → s.vm.Alike t.vm → px u → BX E u t → H.size ≤ H1.size → (∀ q : Nat, q < H.size → ¬ AX q → H1[q]? = H[q]?) → va_S A0 H0 H1 locs1 → H1[q9]? = some ce → ce.vm = .none → s.vm.findClass E = some ce.cls → vx_W p l e R s m args below meth c H1 locs1 (cells + mc) (slots + ms) Q (F0 m pc ls rest) q9)
    (kk : ∀ (r : Int64) (u : S) (t : State) (H1 : Heap) (locs1 : List Loc), t.heap = H1 → s.vm.Alike t.vm → post r u → B u t → H.size ≤ H1.size → (∀ q : Nat, q < H.size → ¬ A1 q → H1[q]? = H[q]?) → va_S A0 H0 H1 locs1 → W p l e R s m args below meth c H1 locs1 (cells + mc) (slots + ms) Q (F0 m (pc + 3) ls (.long r :: rest))) : W p l e R s m args below meth c H locs cells slots Q (F0 m pc ls st0) := by
  intro T hT X
  rcases hr T hT X with ⟨v, st₀, t, T', L, h0, X', hL, e1, e2, ⟨⟨r, u, hv, hp, hb⟩, hF⟩, st⟩ | ⟨q, st₀, t, T', L, E, ce, h0, X', hL, e1, e2, ⟨u, hp, hb, hF⟩, hce, hcv, hcl, st⟩
  · cases hv
    obtain ⟨k1, k2, k3⟩ := vx_keep h0 e1 hS hA hf hL hF
    obtain ⟨t2, a1, b1⟩ := kk r u t T'.heap (locs ++ L) e1.symm (by rw [← e2]; exact X'.warmed.alike) hp hb k1 k2 k3 T' rfl X'
    exact ⟨t2, st t2 a1, b1⟩
  · obtain ⟨k1, k2, k3⟩ := vx_keep h0 e1 hS hAX hf hL hF
    obtain ⟨t2, a1, b1⟩ := kx E ce q u t T'.heap (locs ++ L) e1.symm (by rw [← e2]; exact X'.warmed.alike) hp hb k1 k2 k3 (by rw [e1]; exact hce) hcv hcl T' rfl X'
    exact ⟨t2, st.trans a1, b1⟩
theorem vx_callf {S SX : Type} {post : UInt32 → S → Prop} {px : SX → Prop} {B : S → State → Prop} {BX : String → SX → State → Prop} {AX : Nat → Prop} (hr : vx_Run p l e R s m args below meth c H locs cells slots mc ms (F0 m pc ls st0) rest (va_Qf post B A1 a) (vx_X px BX AX) free) (hS : va_S A0 H0 H locs) (hA : ∀ q, q < H.size → A1 q → A0 q) (hf : ∀ q, free q → A0 q) (hAX : ∀ q, q < H.size → AX q → A0 q)
    (kx : ∀ (E : String) (ce : Cell) (q9 : Addr) (u : SX) (t : State) (H1 : Heap) (locs1 : List Loc), t.heap = H1 → s.vm.Alike t.vm → px u → BX E u t → H.size ≤ H1.size → (∀ q : Nat, q < H.size → ¬ AX q → H1[q]? = H[q]?) → va_S A0 H0 H1 locs1 → H1[q9]? = some ce → ce.vm = .none → s.vm.findClass E = some ce.cls → vx_W p l e R s m args below meth c H1 locs1 (cells + mc) (slots + ms) Q (F0 m pc ls rest) q9)
    (kk : ∀ (r : UInt32) (u : S) (t : State) (H1 : Heap) (locs1 : List Loc), t.heap = H1 → s.vm.Alike t.vm → post r u → B u t → H.size ≤ H1.size → (∀ q : Nat, q < H.size → ¬ A1 q → H1[q]? = H[q]?) → va_S A0 H0 H1 locs1 → W p l e R s m args below meth c H1 locs1 (cells + mc) (slots + ms) Q (F0 m (pc + 3) ls (.float r :: rest))) : W p l e R s m args below meth c H locs cells slots Q (F0 m pc ls st0) := by
  intro T hT X
  rcases hr T hT X with ⟨v, st₀, t, T', L, h0, X', hL, e1, e2, ⟨⟨r, u, hv, hp, hb⟩, hF⟩, st⟩ | ⟨q, st₀, t, T', L, E, ce, h0, X', hL, e1, e2, ⟨u, hp, hb, hF⟩, hce, hcv, hcl, st⟩
  · cases hv
    obtain ⟨k1, k2, k3⟩ := vx_keep h0 e1 hS hA hf hL hF
    obtain ⟨t2, a1, b1⟩ := kk r u t T'.heap (locs ++ L) e1.symm (by rw [← e2]; exact X'.warmed.alike) hp hb k1 k2 k3 T' rfl X'
    exact ⟨t2, st t2 a1, b1⟩
  · obtain ⟨k1, k2, k3⟩ := vx_keep h0 e1 hS hAX hf hL hF
    obtain ⟨t2, a1, b1⟩ := kx E ce q u t T'.heap (locs ++ L) e1.symm (by rw [← e2]; exact X'.warmed.alike) hp hb k1 k2 k3 (by rw [e1]; exact hce) hcv hcl T' rfl X'
    exact ⟨t2, st.trans a1, b1⟩
theorem vx_calld {S SX : Type} {post : UInt64 → S → Prop} {px : SX → Prop} {B : S → State → Prop} {BX : String → SX → State → Prop} {AX : Nat → Prop} (hr : vx_Run p l e R s m args below meth c H locs cells slots mc ms (F0 m pc ls st0) rest (va_Qd post B A1 a) (vx_X px BX AX) free) (hS : va_S A0 H0 H locs) (hA : ∀ q, q < H.size → A1 q → A0 q) (hf : ∀ q, free q → A0 q) (hAX : ∀ q, q < H.size → AX q → A0 q)
    (kx : ∀ (E : String) (ce : Cell) (q9 : Addr) (u : SX) (t : State) (H1 : Heap) (locs1 : List Loc), t.heap = H1 → s.vm.Alike t.vm → px u → BX E u t → H.size ≤ H1.size → (∀ q : Nat, q < H.size → ¬ AX q → H1[q]? = H[q]?) → va_S A0 H0 H1 locs1 → H1[q9]? = some ce → ce.vm = .none → s.vm.findClass E = some ce.cls → vx_W p l e R s m args below meth c H1 locs1 (cells + mc) (slots + ms) Q (F0 m pc ls rest) q9)
    (kk : ∀ (r : UInt64) (u : S) (t : State) (H1 : Heap) (locs1 : List Loc), t.heap = H1 → s.vm.Alike t.vm → post r u → B u t → H.size ≤ H1.size → (∀ q : Nat, q < H.size → ¬ A1 q → H1[q]? = H[q]?) → va_S A0 H0 H1 locs1 → W p l e R s m args below meth c H1 locs1 (cells + mc) (slots + ms) Q (F0 m (pc + 3) ls (.double r :: rest))) : W p l e R s m args below meth c H locs cells slots Q (F0 m pc ls st0) := by
  intro T hT X
  rcases hr T hT X with ⟨v, st₀, t, T', L, h0, X', hL, e1, e2, ⟨⟨r, u, hv, hp, hb⟩, hF⟩, st⟩ | ⟨q, st₀, t, T', L, E, ce, h0, X', hL, e1, e2, ⟨u, hp, hb, hF⟩, hce, hcv, hcl, st⟩
  · cases hv
    obtain ⟨k1, k2, k3⟩ := vx_keep h0 e1 hS hA hf hL hF
    obtain ⟨t2, a1, b1⟩ := kk r u t T'.heap (locs ++ L) e1.symm (by rw [← e2]; exact X'.warmed.alike) hp hb k1 k2 k3 T' rfl X'
    exact ⟨t2, st t2 a1, b1⟩
  · obtain ⟨k1, k2, k3⟩ := vx_keep h0 e1 hS hAX hf hL hF
    obtain ⟨t2, a1, b1⟩ := kx E ce q u t T'.heap (locs ++ L) e1.symm (by rw [← e2]; exact X'.warmed.alike) hp hb k1 k2 k3 (by rw [e1]; exact hce) hcv hcl T' rfl X'
    exact ⟨t2, st.trans a1, b1⟩
theorem vx_callv {S SX : Type} {post : S → Prop} {px : SX → Prop} {B : S → State → Prop} {BX : String → SX → State → Prop} {AX : Nat → Prop} (hr : vx_Run p l e R s m args below meth c H locs cells slots mc ms (F0 m pc ls st0) rest (va_Qv post B A1 a) (vx_X px BX AX) free) (hS : va_S A0 H0 H locs) (hA : ∀ q, q < H.size → A1 q → A0 q) (hf : ∀ q, free q → A0 q) (hAX : ∀ q, q < H.size → AX q → A0 q)
    (kx : ∀ (E : String) (ce : Cell) (q9 : Addr) (u : SX) (t : State) (H1 : Heap) (locs1 : List Loc), t.heap = H1 → s.vm.Alike t.vm → px u → BX E u t → H.size ≤ H1.size → (∀ q : Nat, q < H.size → ¬ AX q → H1[q]? = H[q]?) → va_S A0 H0 H1 locs1 → H1[q9]? = some ce → ce.vm = .none → s.vm.findClass E = some ce.cls → vx_W p l e R s m args below meth c H1 locs1 (cells + mc) (slots + ms) Q (F0 m pc ls rest) q9)
    (kk : ∀ (u : S) (t : State) (H1 : Heap) (locs1 : List Loc), t.heap = H1 → s.vm.Alike t.vm → post u → B u t → H.size ≤ H1.size → (∀ q : Nat, q < H.size → ¬ A1 q → H1[q]? = H[q]?) → va_S A0 H0 H1 locs1 → W p l e R s m args below meth c H1 locs1 (cells + mc) (slots + ms) Q (F0 m (pc + 3) ls (rest))) : W p l e R s m args below meth c H locs cells slots Q (F0 m pc ls st0) := by
  intro T hT X
  rcases hr T hT X with ⟨v, st₀, t, T', L, h0, X', hL, e1, e2, ⟨⟨u, hv, hp, hb⟩, hF⟩, st⟩ | ⟨q, st₀, t, T', L, E, ce, h0, X', hL, e1, e2, ⟨u, hp, hb, hF⟩, hce, hcv, hcl, st⟩
  · cases hv
    obtain ⟨k1, k2, k3⟩ := vx_keep h0 e1 hS hA hf hL hF
    obtain ⟨t2, a1, b1⟩ := kk u t T'.heap (locs ++ L) e1.symm (by rw [← e2]; exact X'.warmed.alike) hp hb k1 k2 k3 T' rfl X'
    exact ⟨t2, st t2 a1, b1⟩
  · obtain ⟨k1, k2, k3⟩ := vx_keep h0 e1 hS hAX hf hL hF
    obtain ⟨t2, a1, b1⟩ := kx E ce q u t T'.heap (locs ++ L) e1.symm (by rw [← e2]; exact X'.warmed.alike) hp hb k1 k2 k3 (by rw [e1]; exact hce) hcv hcl T' rfl X'
    exact ⟨t2, st.trans a1, b1⟩
/-- caught by the row x of this method's table; the rows ahead don't take it -/
theorem vx_catch {own name : String} {E : String} {ce : Cell} {q : Addr} (hown : s.vm.findClass own = some m.cls) (pre : List ExceptionTableEntry) (x : ExceptionTableEntry) (suf : List ExceptionTableEntry) (hsplit : c.exceptionTable.toList = pre ++ x :: suf)
    (hpass : ∀ z ∈ pre, covers z pc = false ∨ (z.catchType ≠ 0 ∧ ∃ nm : String, (Cond.classLink own z.catchType nm).before args s = true ∧ va_Nc E nm s)) (hx : covers x pc = true) (h0 : x.catchType ≠ 0)
    (hlink : (Cond.classLink own x.catchType name).before args s = true) (hcast : (Cond.castable E name).before args s = true) (hcell : H[q]? = some ce) (hv : ce.vm = .none) (hcl : s.vm.findClass E = some ce.cls)
    (kk : W p l e R s m args below meth c H locs cells slots Q (F0 m x.handlerPc ls [.ref q])) : vx_W p l e R s m args below meth c H locs cells slots Q (F0 m pc ls rest) q := by
  intro T hT X
  have hpl : e.platform.magicAccessors = ({} : Platform).magicAccessors := by rw [X.admits.platform]
  obtain ⟨c3, c4, hc3, hc4, hasg⟩ := Cond.castable_spec hcast
  cases Option.some.inj (hc3.symm.trans hcl)
  obtain ⟨c5, hc5, hcl5⟩ := Cond.classLink_spec hown hlink e.platform hpl
  cases Option.some.inj (hc4.symm.trans hc5)
  obtain ⟨vm', X', st⟩ := X.thenCaughtThrough q (g := F0 m pc ls rest) rfl (Steps.refl _) (by rw [hT]; exact hcell) (by rw [hv]; rfl) (by obtain ⟨k9, h9, -⟩ := Vm.findClass_spec hcl; exact ⟨k9, h9⟩) pre x suf hsplit
    (fun z hz => by
      rcases hpass z hz with h | ⟨hz0, nm, hl1, hn1⟩
      · exact Or.inl h
      · obtain ⟨c6, hc6, hcl6⟩ := Cond.classLink_spec hown hl1 e.platform hpl
        obtain ⟨a8, b8, h1, h2, h3⟩ := hn1
        cases Option.some.inj (h1.symm.trans hcl)
        cases Option.some.inj (h2.symm.trans hc6)
        exact Or.inr ⟨hz0, _, hcl6, h3⟩) hx (Or.inr ⟨h0, c4, hcl5, hasg⟩)
  obtain ⟨t, a1, b1⟩ := kk (T.setVm vm') hT X'
  exact ⟨t, st.trans a1, b1⟩
end Rows
section Ends
variable {p : Program} {l : Launch} {e : Env} {R : Room} {s : State} {m : MethodId} {args : Array Value} {below : List Frame} {meth : Method} {c : Code} {H : Heap} {locs : List Loc} {cells slots : Nat} {Q : State → Prop}
variable {mc ms : Nat} {free : Addr → Prop} {A0 A1 : Nat → Prop} {H0 : Heap} {a : Array Value} {ls : Array Slot} {st0 rest : List Value}
variable {Qc : Array Value → State → Outcome → State → Prop} {XC : String → State → State → Prop}
/-- what a body that may throw owes at its end -/
def vx_MQ (below : List Frame) (Qc : Array Value → State → Outcome → State → Prop) (XC : String → State → State → Prop) (a : Array Value) (s : State) (mc ms : Nat) (free : Addr → Prop) : State → Prop := fun t =>
  ∃ o, t.status = .running ∧ Ended t below o ∧ vx_Q Qc XC mc ms free a s o t
theorem vx_ret {g : JFrame} {mc ms : Nat} (k : W p l e R s m args below meth c H locs cells slots (MQ below Qc args s mc ms free) g) : W p l e R s m args below meth c H locs cells slots (vx_MQ below Qc XC args s mc ms free) g := by
  intro T hT X
  obtain ⟨t, a1, o, b1, b2, b3, b4⟩ := k T hT X
  exact ⟨t, a1, o, b1, b2, Or.inl ⟨b3, b4⟩⟩
/-- not caught here: it goes on to the caller -/
theorem vx_widen {g : JFrame} {q : Addr} {k n : Nat} (h1 : cells ≤ k) (h2 : slots ≤ n) (kk : vx_W p l e R s m args below meth c H locs k n Q g q) : vx_W p l e R s m args below meth c H locs cells slots Q g q := fun T hT X => kk T hT (stand_widen X h1 h2)
theorem vx_out {pc : Nat} {E : String} {ce : Cell} {q : Addr} {mc ms : Nat} (hout : ∀ x ∈ c.exceptionTable.toList, covers x pc = false) (hlocks : meth.locks = false) (hcell : H[q]? = some ce) (hv : ce.vm = .none) (hcl : s.vm.findClass E = some ce.cls)
    (hx : ∀ t : State, t.heap = H → s.vm.Alike t.vm → XC E s t) (hf : ∀ z ∈ locs, free z.base) (hc : cells ≤ mc) (hs : slots ≤ ms) :
    vx_W p l e R s m args below meth c H locs cells slots (vx_MQ below Qc XC args s mc ms free) (F0 m pc ls rest) q := by
  intro T hT X
  obtain ⟨st1, hrun, hend, hW, hsm⟩ := X.leaveThrown q (g := F0 m pc ls rest) rfl rfl rfl hout hlocks
  have hcell9 : (T.setFrames (.throwing q :: below)).heap[q]? = some ce := by
    show T.heap[q]? = some ce
    rw [hT]; exact hcell
  exact ⟨_, st1, .threw q, hrun, hend, Or.inr ⟨q, rfl, E, ce, locs, hx _ hT hW.alike, hcell9, hv, hcl, hW, hsm.mono hc hs, hf⟩⟩
theorem vx_frame {U : State} {k n : Nat} (h : s.sameButNew ({ U with vm := s.vm } : State) locs k n) : s.heap.size ≤ U.heap.size ∧ ∀ q : Nat, q < s.heap.size → (∀ z ∈ locs, z.base ≠ q) → U.heap[q]? = s.heap[q]? := by
  obtain ⟨-, h2, -, -, -, h6⟩ := h
  refine ⟨h2, fun q hq hz => ?_⟩
  obtain ⟨c9, e1, e2, e3, e4⟩ := h6 q _ (Array.getElem?_eq_getElem hq)
  have hs : c9.slots = (s.heap[q]).slots := Array.ext_getElem? fun i => e4 i fun hm => hz _ hm rfl
  have h9 : c9 = s.heap[q] := by
    rw [hs] at e2
    exact e2
  have e5 : U.heap[q]? = some c9 := e1
  rw [e5, h9, Array.getElem?_eq_getElem hq]
/-- the words of a throw but the four that speak of the heap -/
def vx_no (w : Cond) : Bool := decide (w ≠ .isRef (.static Bundle.tN "UNASSIGNED_STACK" Bundle.steD)) && decide (w ≠ .isRef (.static Bundle.tN "SUPPRESSED_SENTINEL" Bundle.listD)) && decide (w ≠ .laysStatic Bundle.tN "UNASSIGNED_STACK" Bundle.steD) && decide (w ≠ .laysStatic Bundle.tN "SUPPRESSED_SENTINEL" Bundle.listD)
def vx_at0 (own : String) (ic : Nat) (X : String) (names : List String) : List Cond := (Bundle.ownAtoms0 own ic X names).filter vx_no
def vx_atS (own : String) (ic : Nat) (X : String) (names : List String) : List Cond := (Bundle.ownAtoms own ic X names).filter vx_no
/-- a word that the tables alone decide, or a good one -/
def vx_ot (w : Cond) : Bool := w.onTables || goodWord w
theorem vx_ot_at {args a' : Array Value} {s U : State} {w : Cond} (hW : s.WarmedH U.vm) (hvm : s.vm = U.vm) (hg : vx_ot w = true) (h : w.before args s = true) : w.before a' U = true := by
  simp only [vx_ot, Bool.or_eq_true] at hg
  rcases hg with hg | hg
  · exact va_tabs hg hvm h
  · exact word_at hW (good_of_word hg) h
/-- a list's words: the good ones out of the method's own list, the others by premises of their own -/
theorem vx_hat {args : Array Value} {s : State} {L B : List Cond} (h1 : ∀ w ∈ L.filter goodWord, w.before args s = true) (h2 : ∀ w ∈ L.filter (fun w => !goodWord w), w ∈ B) (h3 : ∀ w ∈ B, w.before args s = true) : ∀ w ∈ L, w.before args s = true := by
  intro w hw
  by_cases g : goodWord w = true
  · exact h1 w (List.mem_filter.mpr ⟨hw, g⟩)
  · refine h3 w (h2 w (List.mem_filter.mpr ⟨hw, ?_⟩))
    show (!goodWord w) = true
    cases hgw : goodWord w
    · rfl
    · exact absurd hgw g
theorem vx_c {args : Array Value} {s : State} {w : Cond} {B : List Cond} (h : w.before args s = true) (t : ∀ w ∈ B, w.before args s = true) : ∀ w' ∈ w :: B, w'.before args s = true := fun w' h' => (List.mem_cons.mp h').elim (fun e => by rw [e]; exact h) (t w')
theorem vx_n {args : Array Value} {s : State} : ∀ w ∈ ([] : List Cond), w.before args s = true := fun _ h => nomatch h
theorem vx_own {args : Array Value} {s : State} {L : List Cond} (h1 : ∀ w ∈ L.filter vx_no, w.before args s = true)
    (hU : (Cond.isRef (.static Bundle.tN "UNASSIGNED_STACK" Bundle.steD)).before args s = true) (hN : (Cond.isRef (.static Bundle.tN "SUPPRESSED_SENTINEL" Bundle.listD)).before args s = true)
    (lU : (Cond.laysStatic Bundle.tN "UNASSIGNED_STACK" Bundle.steD).before args s = true) (lN : (Cond.laysStatic Bundle.tN "SUPPRESSED_SENTINEL" Bundle.listD).before args s = true) : ∀ w ∈ L, w.before args s = true := by
  intro w hw
  by_cases e1 : w = .isRef (.static Bundle.tN "UNASSIGNED_STACK" Bundle.steD)
  · rw [e1]; exact hU
  · by_cases e2 : w = .isRef (.static Bundle.tN "SUPPRESSED_SENTINEL" Bundle.listD)
    · rw [e2]; exact hN
    · by_cases e3 : w = .laysStatic Bundle.tN "UNASSIGNED_STACK" Bundle.steD
      · rw [e3]; exact lU
      · by_cases e4 : w = .laysStatic Bundle.tN "SUPPRESSED_SENTINEL" Bundle.listD
        · rw [e4]; exact lN
        · exact h1 w (List.mem_filter.mpr ⟨hw, by unfold vx_no; rw [decide_eq_true e1, decide_eq_true e2, decide_eq_true e3, decide_eq_true e4]; rfl⟩)
/-- where a static field lies, its class's statics cell in H -/
def vx_L (C n d : String) (A : Nat → Prop) (U : State) (H : Heap) : Prop := ∃ (c : ClassId) (k : Class) (i : Nat) (f : Field) (a : Nat) (cell : Cell), U.vm.findClass C = some c ∧ U.fieldFound? C n d = some (c, k, i, f) ∧ f.isStatic = true ∧ k.statics = some a ∧ H[a]? = some cell ∧ cell.vm.isStatics = true ∧ cell.cls = c ∧ f.slot < cell.slots.size ∧ k.staticTypes[f.slot]? = some f.type ∧ ¬ A a
theorem vx_L.moved {C n d : String} {A : Nat → Prop} {u U : State} {H : Heap} (hvm : u.vm.Alike U.vm) (h : vx_L C n d A u H) : vx_L C n d A U H := by
  obtain ⟨c, k, i, f, a, cell, h1, h2, h3, h4, h5, h6, h7, h8, h9, h10⟩ := h
  obtain ⟨k', hi', he⟩ := State.fieldFound?_setVm hvm h2
  exact ⟨c, k', i, f, a, cell, by rw [hvm.findClass]; exact h1, hi', h3, by rw [he]; exact h4, h5, h6, h7, h8, by rw [he]; exact h9, h10⟩
theorem vx_L.kept {C n d : String} {A : Nat → Prop} {U : State} {H H1 : Heap} (h : vx_L C n d A U H) (hq : ∀ a : Nat, a < H.size → ¬ A a → H1[a]? = H[a]?) : vx_L C n d A U H1 := by
  obtain ⟨c, k, i, f, a, cell, h1, h2, h3, h4, h5, h6, h7, h8, h9, h10⟩ := h
  exact ⟨c, k, i, f, a, cell, h1, h2, h3, h4, by rw [hq a (Array.getElem?_eq_some_iff.mp h5).1 h10]; exact h5, h6, h7, h8, h9, h10⟩
theorem vx_L.narrow {C n d : String} {A B : Nat → Prop} {U : State} {H : Heap} (h : vx_L C n d A U H) (hAB : ∀ q, B q → A q) : vx_L C n d B U H := by
  obtain ⟨c, k, i, f, a, cell, h1, h2, h3, h4, h5, h6, h7, h8, h9, h10⟩ := h
  exact ⟨c, k, i, f, a, cell, h1, h2, h3, h4, h5, h6, h7, h8, h9, fun z => h10 (hAB _ z)⟩
theorem vx_L.word {C n d : String} {A : Nat → Prop} {s : State} {args : Array Value} (h : vx_L C n d A s s.heap) : (Cond.laysStatic C n d).before args s = true := by
  obtain ⟨c, k, i, f, a, cell, h1, h2, h3, h4, h5, h6, h7, h8, h9, -⟩ := h
  show (Cond.laysStatic C n d).holds args s none s [] = true
  exact Cond.laysStatic_of h1 h2 h3 h4 h5 h6 h7 h8 h9
/-- .. and what it holds: null or some reference -/
def vx_Zq (C n d : String) (A : Nat → Prop) (U : State) (H : Heap) : Prop := va_Zq C n d A U H ∧ vx_L C n d A U H
theorem vx_Zq.moved {C n d : String} {A : Nat → Prop} {u U : State} {H : Heap} (hvm : u.vm.Alike U.vm) (h : vx_Zq C n d A u H) : vx_Zq C n d A U H := ⟨va_Zq.moved hvm h.1, vx_L.moved hvm h.2⟩
theorem vx_Zq.kept {C n d : String} {A : Nat → Prop} {U : State} {H H1 : Heap} (h : vx_Zq C n d A U H) (hq : ∀ a : Nat, a < H.size → ¬ A a → H1[a]? = H[a]?) : vx_Zq C n d A U H1 := ⟨va_Zq.kept h.1 hq, vx_L.kept h.2 hq⟩
theorem vx_Zq.narrow {C n d : String} {A B : Nat → Prop} {U : State} {H : Heap} (h : vx_Zq C n d A U H) (hAB : ∀ q, B q → A q) : vx_Zq C n d B U H := ⟨va_Zq.narrow h.1 hAB, vx_L.narrow h.2 hAB⟩
theorem vx_Zqof {args : Array Value} {s : State} {C n d : String} {A : Nat → Prop} (hl : (Cond.laysStatic C n d).before args s = true) (hini : (Cond.initialized C).before args s = true) (h : (Cond.isRef (.static C n d)).before args s = true) (hA : ∀ a : Nat, a < s.heap.size → ¬ A a) : vx_Zq C n d A s s.heap := by
  refine ⟨va_Zqof hl hini h hA, ?_⟩
  obtain ⟨c, k, i, f, a, cell, h1, h2, h3, h4, h5, h6, h7, h8, h9⟩ := Cond.laysStatic_spec hl
  exact ⟨c, k, i, f, a, cell, h1, h2, h3, h4, h5, h6, h7, h8, h9, hA a (Array.getElem?_eq_some_iff.mp h5).1⟩
theorem vx_isRef {C n d : String} {v : Value} {A : Nat → Prop} {s : State} {args : Array Value} (h : va_Z C n d v A s s.heap) (hv : v.isRef = true) : (Cond.isRef (.static C n d)).before args s = true := by
  obtain ⟨cf, kf, fi, f, a, cell, h1, h2, h3, h4, h5, h6, h7, -⟩ := h
  have he : (Term.static C n d).eval args s none [] s = some v := by
    simp [Term.eval, State.fieldNamed?, h1, h2, h4, h5, h6, h7]
  simp only [Cond.before, Cond.holds, Cond.value, he]
  cases v <;> simp_all [Value.isRef]
theorem vx_isRefq {C n d : String} {A : Nat → Prop} {s : State} {args : Array Value} (h : va_Zq C n d A s s.heap) : (Cond.isRef (.static C n d)).before args s = true := by
  rcases h with h | ⟨t, h⟩
  · exact vx_isRef h rfl
  · exact vx_isRef h rfl
/-- the same frame, seen from here: as if the method were called anew in this heap -/
theorem vx_rebase {T : State} (X : Stand p l e R s m args below meth c T locs cells slots) {R' : Room} (hf : R'.frames ≤ R.frames) (hl : R'.locals ≤ R.locals) (hc : cells + R'.cells ≤ R.cells) (hs : slots + R'.slots ≤ R.slots) :
    Stand p l e R' ((T.setVm s.vm).setFrames (.invoking m args :: below)) m args below meth c T [] 0 0 := by
  have htop : (T.setVm s.vm).topJava?.isSome := X.here.top
  have hF : ((T.setVm s.vm).setFrames (.invoking m args :: below)).frames = .invoking m args :: below := State.frames_setFrames _ (State.cur_lt_of_top htop)
  obtain ⟨g₀, hg0⟩ := Option.isSome_iff_exists.mp htop
  obtain ⟨r, hr⟩ := State.topJava?_eq_some.mp hg0
  have hl9 : e.platform.stackLimits (T.setVm s.vm).me = e.platform.stackLimits s.me := X.limits
  have hb9 : (T.setVm s.vm).me.stackBytes = s.me.stackBytes := X.bytes
  refine ⟨X.admits, X.cas, X.clock, hF, ?_, X.hears, X.method, X.code, X.here, X.tail, X.warmed, ?_, ?_, ?_⟩
  · have h := X.room
    have hU : ((T.setVm s.vm).setFrames (.invoking m args :: below)).localsInUse = s.localsInUse := by
      rw [State.localsInUse_invoking hF (meth := meth) (c := c) X.method X.code, State.localsInUse_invoking X.frames X.method X.code]
    simp only [State.hasRoom, Bool.and_eq_true, decide_eq_true_eq] at h ⊢
    obtain ⟨⟨⟨⟨h1, h2, h3, h4, h5, h6⟩, h7⟩, h8⟩, h9⟩ := h
    rw [X.frames, List.length_cons] at h2 h3
    have q1 := X.heapSize
    have q2 := X.used
    simp only [hF, hU, List.length_cons, State.stackLimits_setFrames, State.stackBytes_setFrames, hl9, hb9]
    refine ⟨⟨⟨⟨by omega, by omega, by omega, by omega, by omega, h6⟩, ?_⟩, ?_⟩, X.book⟩
    · show T.heap.size + R'.cells ≤ e.platform.maxCells
      omega
    · show T.slotsUsed + R'.slots ≤ e.platform.maxSlots
      omega
  · rw [State.stackLimits_setFrames]; rfl
  · rw [State.stackBytes_setFrames]; rfl
  · refine ⟨?_, Nat.le_refl _, Nat.le_refl _, ?_, ?_, fun a c9 h9 => ⟨c9, h9, rfl, rfl, fun _ _ => rfl⟩⟩
    · obtain ⟨t, ht, -⟩ := State.frames_cons hr
      show T.setVm s.vm = { ((T.setVm s.vm).setFrames (.invoking m args :: below)).setFrames (T.setVm s.vm).frames with heap := T.heap, slotsUsed := T.slotsUsed }
      rw [State.setFrames_setFrames, State.setFrames_self ht]
      rfl
    · show T.slotsUsed = T.slotsUsed + ((T.heap.toList.drop T.heap.size).map (·.slots.size)).sum
      rw [List.drop_eq_nil_of_le (Nat.le_of_eq Array.length_toList)]
      rfl
    · show ((T.heap.toList.drop T.heap.size).map (·.slots.size)).sum ≤ 0
      rw [List.drop_eq_nil_of_le (Nat.le_of_eq Array.length_toList)]
      exact Nat.le_refl _
/-- 'throw new E()': new; dup; invokespecial; athrow -/
theorem vx_throw0 {cc : ByteArray} {pc : Nat} (hexec : p.tables.exec = Jvm.exec) (hb : c.code = cc) (hl : l.stackTraces = false) {own cls : String} {names : List String} {ik ic mc ms : Nat} {A : Nat → Prop}
    (hown : s.vm.findClass own = some m.cls) (hcls : Bundle.fit cls = true) (hnames : ∀ n ∈ names, Bundle.fit n = true)
    (hk : (Cond.classLink own ik cls).before args s = true) (hini : (Cond.initialized cls).before args s = true) (hat : ∀ w ∈ vx_at0 own ic cls names, w.before args s = true)
    (hgood : ∀ w ∈ Cond.classLink own ik cls :: Cond.initialized cls :: vx_at0 own ic cls names, vx_ot w = true)
    (hU : vx_Zq Bundle.tN "UNASSIGNED_STACK" Bundle.steD A s s.heap) (hN : vx_Zq Bundle.tN "SUPPRESSED_SENTINEL" Bundle.listD A s s.heap) (hS : va_S A s.heap H locs) (hsize : ls.size = c.maxLocals)
    (d0 : decode cc pc = .ok (.new ik, 3)) (d3 : decode cc (pc + 3) = .ok (.dup, 1)) (d4 : decode cc (pc + 4) = .ok (.invokespecial ic, 3)) (d7 : decode cc (pc + 7) = .ok (.athrow, 1))
    (hout : ∀ x ∈ c.exceptionTable.toList, covers x (pc + 7) = false)
    (hRframes : names.length + 3 < R.frames) (hRlocals : (rest.map fun v => v.category).sum + (13 * (names.length + 1) + 42) ≤ R.locals) (hRcells : cells + 1 ≤ R.cells) (hRslots : slots + 6 ≤ R.slots) (hlocks : meth.locks = false)
    (hx : ∀ t : State, s.vm.Alike t.vm → H.size ≤ t.heap.size → (∀ q : Nat, q < H.size → t.heap[q]? = H[q]?) → XC cls s t)
    (hf : ∀ z ∈ locs, free z.base) (hc : cells + 1 ≤ mc) (hs : slots + 6 ≤ ms) :
    W p l e R s m args below meth c H locs cells slots (vx_MQ below Qc XC args s mc ms free) (F0 m pc ls rest) := by
  intro T hT X
  have htr : e.platform.stackTraces = false := (show e.platform.stackTraces = l.stackTraces by rw [X.admits.platform]).trans hl
  have Y := vx_rebase X (R' := { frames := R.frames, locals := R.locals, cells := 1, slots := 6 }) (Nat.le_refl _) (Nat.le_refl _) hRcells hRslots
  obtain ⟨s', hA⟩ : ∃ z, z = (T.setVm s.vm).setFrames (.invoking m args :: below) := ⟨_, rfl⟩
  rw [← hA] at Y
  have hvm : s'.vm = s.vm := by rw [hA]; rfl
  have hhp : s'.heap = H := by rw [hA]; exact hT
  have hW0 : s.WarmedH s'.vm := by rw [hvm]; exact State.WarmedH.refl s
  have hat' : ∀ w ∈ vx_at0 own ic cls names, w.before args s' = true := fun w hw => vx_ot_at hW0 hvm.symm (hgood w (List.mem_cons_of_mem _ (List.mem_cons_of_mem _ hw))) (hat w hw)
  have hk' : (Cond.classLink own ik cls).before args s' = true := vx_ot_at hW0 hvm.symm (hgood _ List.mem_cons_self) hk
  have hini' : (Cond.initialized cls).before args s' = true := vx_ot_at hW0 hvm.symm (hgood _ (List.mem_cons_of_mem _ List.mem_cons_self)) hini
  have hU' : vx_Zq Bundle.tN "UNASSIGNED_STACK" Bundle.steD A s' s'.heap := by rw [hhp]; exact vx_Zq.moved hW0.alike (hU.kept hS.2.1)
  have hN' : vx_Zq Bundle.tN "SUPPRESSED_SENTINEL" Bundle.listD A s' s'.heap := by rw [hhp]; exact vx_Zq.moved hW0.alike (hN.kept hS.2.1)
  have h : ∀ w ∈ Bundle.ownAtoms0 own ic cls names, w.before args s' = true := vx_own hat' (vx_isRefq hU'.1) (vx_isRefq hN'.1) hU'.2.word hN'.2.word
  have hown' : s'.vm.findClass own = some m.cls := by rw [hvm]; exact hown
  have hins : (Cond.instantiable cls 6).before args s' = true := h _ (by simp [Bundle.ownAtoms0])
  obtain ⟨vm₁, cX, kX, hfX, hkX, -, -, X₁, st1⟩ := Y.newCold hexec (own := own) (C := cls) (index := ik) (n := 6) hown' hk' hins hini'
    (g := F0 m pc ls rest) rfl (by rw [hb]; exact d0) (Nat.le_refl _) (Nat.le_refl _)
  generalize hT1 : (T.setVm vm₁).pushCell { cls := cX, slots := kX.instanceTypes.map defaultValue, vm := .none } = T1 at X₁ st1
  have hcat : (Value.ref T.heap.size).category = 1 := rfl
  have hcellA : T1.heap[T.heap.size]? = some (freshCell cX kX) := by rw [← hT1]; exact State.heap_pushCell_size _ _
  have d3' : decode c.code (pc + 3) = .ok (.dup, 1) := by rw [hb]; exact d3
  obtain ⟨U, hsteps, hrun, hend, hW, hsame, ce, hce, hO⟩ := X₁.ctorThrow0 hexec htr (own := own) (cls := cls) (names := names) (ic := ic) hown' hcls hnames h (fun x hx => nomatch hx) hfX hkX hcellA (by rw [hhp, hT]; exact Nat.le_refl _)
    (g := { method := m, pc := pc + 4, locals := ls, stack := .ref T.heap.size :: .ref T.heap.size :: rest, locked := none }) rfl hsize rfl rfl (rest := rest) rfl
    (by rw [hb]; exact d4) (by rw [hb]; exact d7) hout hRframes (by simp only [List.map_cons, List.sum_cons, hcat]; omega) hlocks
  obtain ⟨f1, f2⟩ := vx_frame hsame
  rw [hhp] at f1 f2
  have hWs : s.WarmedH U.vm := State.WarmedH.trans hW0 hW
  have hcl : s.vm.findClass cls = some ce.cls := by
    have h9 := hO.cls
    rw [hvm] at h9
    exact h9
  have hall : s.sameButNew ({ U with vm := s.vm } : State) locs mc ms := by
    subst hA
    obtain ⟨e1, e2⟩ := hsame
    rw [State.setFrames_setFrames] at e1
    have h2 : (T.setVm s.vm).sameButNew ({ U with vm := s.vm } : State) [] (0 + 1) (0 + 6) := ⟨e1, e2⟩
    have h3 := X.same.trans h2
    rw [List.append_nil] at h3
    exact h3.mono hc hs
  refine ⟨U, ?_, .threw T.heap.size, hrun, hend, Or.inr ⟨T.heap.size, rfl, cls, ce, locs, hx U hWs.alike f1 (fun q hq => f2 q hq (fun z hz => nomatch hz)), hce, hO.vm, hcl, hWs, hall, hf⟩⟩
  refine st1 _ ?_
  show Steps p.tables e below (T1.setTop { method := m, pc := pc + 3, locals := ls, stack := .ref T.heap.size :: rest, locked := none }) _
  jvm_step X₁.here [X₁.here.top, hexec, d3', Value.category]
  exact hsteps
/-- 'throw new E("text")': new; dup; ldc; invokespecial; athrow -/
theorem vx_throwS {cc : ByteArray} {pc : Nat} (hexec : p.tables.exec = Jvm.exec) (hb : c.code = cc) (hl : l.stackTraces = false) {own cls text : String} {names : List String} {ik is ic mc ms sa : Nat} {A : Nat → Prop}
    (hown : s.vm.findClass own = some m.cls) (hcls : Bundle.fit cls = true) (hnames : ∀ n ∈ names, Bundle.fit n = true)
    (hk : (Cond.classLink own ik cls).before args s = true) (hini : (Cond.initialized cls).before args s = true) (hstr : vk_R own is text sa s) (hat : ∀ w ∈ vx_atS own ic cls names, w.before args s = true)
    (hgood : ∀ w ∈ Cond.classLink own ik cls :: Cond.initialized cls :: vx_atS own ic cls names, vx_ot w = true)
    (hU : vx_Zq Bundle.tN "UNASSIGNED_STACK" Bundle.steD A s s.heap) (hN : vx_Zq Bundle.tN "SUPPRESSED_SENTINEL" Bundle.listD A s s.heap) (hS : va_S A s.heap H locs) (hsize : ls.size = c.maxLocals)
    (d0 : decode cc pc = .ok (.new ik, 3)) (d3 : decode cc (pc + 3) = .ok (.dup, 1)) (d4 : decode cc (pc + 4) = .ok (.ldc is, 2)) (d6 : decode cc (pc + 6) = .ok (.invokespecial ic, 3)) (d9 : decode cc (pc + 9) = .ok (.athrow, 1))
    (hout : ∀ x ∈ c.exceptionTable.toList, covers x (pc + 9) = false)
    (hRframes : names.length + 3 < R.frames) (hRlocals : (rest.map fun v => v.category).sum + (13 * (names.length + 1) + 43) ≤ R.locals) (hRcells : cells + 1 ≤ R.cells) (hRslots : slots + 6 ≤ R.slots) (hlocks : meth.locks = false)
    (hx : ∀ t : State, s.vm.Alike t.vm → H.size ≤ t.heap.size → (∀ q : Nat, q < H.size → t.heap[q]? = H[q]?) → XC cls s t)
    (hf : ∀ z ∈ locs, free z.base) (hc : cells + 1 ≤ mc) (hs : slots + 6 ≤ ms) :
    W p l e R s m args below meth c H locs cells slots (vx_MQ below Qc XC args s mc ms free) (F0 m pc ls rest) := by
  intro T hT X
  have htr : e.platform.stackTraces = false := (show e.platform.stackTraces = l.stackTraces by rw [X.admits.platform]).trans hl
  have Y := vx_rebase X (R' := { frames := R.frames, locals := R.locals, cells := 1, slots := 6 }) (Nat.le_refl _) (Nat.le_refl _) hRcells hRslots
  obtain ⟨s', hA⟩ : ∃ z, z = (T.setVm s.vm).setFrames (.invoking m args :: below) := ⟨_, rfl⟩
  rw [← hA] at Y
  have hvm : s'.vm = s.vm := by rw [hA]; rfl
  have hhp : s'.heap = H := by rw [hA]; exact hT
  have hW0 : s.WarmedH s'.vm := by rw [hvm]; exact State.WarmedH.refl s
  have hat' : ∀ w ∈ vx_atS own ic cls names, w.before args s' = true := fun w hw => vx_ot_at hW0 hvm.symm (hgood w (List.mem_cons_of_mem _ (List.mem_cons_of_mem _ hw))) (hat w hw)
  have hk' : (Cond.classLink own ik cls).before args s' = true := vx_ot_at hW0 hvm.symm (hgood _ List.mem_cons_self) hk
  have hini' : (Cond.initialized cls).before args s' = true := vx_ot_at hW0 hvm.symm (hgood _ (List.mem_cons_of_mem _ List.mem_cons_self)) hini
  have hU' : vx_Zq Bundle.tN "UNASSIGNED_STACK" Bundle.steD A s' s'.heap := by rw [hhp]; exact vx_Zq.moved hW0.alike (hU.kept hS.2.1)
  have hN' : vx_Zq Bundle.tN "SUPPRESSED_SENTINEL" Bundle.listD A s' s'.heap := by rw [hhp]; exact vx_Zq.moved hW0.alike (hN.kept hS.2.1)
  have h : ∀ w ∈ Bundle.ownAtoms own ic cls names, w.before args s' = true := vx_own hat' (vx_isRefq hU'.1) (vx_isRefq hN'.1) hU'.2.word hN'.2.word
  have hown' : s'.vm.findClass own = some m.cls := by rw [hvm]; exact hown
  have hins : (Cond.instantiable cls 6).before args s' = true := h _ (by simp [Bundle.ownAtoms])
  obtain ⟨vm₁, cX, kX, hfX, hkX, -, -, X₁, st1⟩ := Y.newCold hexec (own := own) (C := cls) (index := ik) (n := 6) hown' hk' hins hini'
    (g := F0 m pc ls rest) rfl (by rw [hb]; exact d0) (Nat.le_refl _) (Nat.le_refl _)
  generalize hT1 : (T.setVm vm₁).pushCell { cls := cX, slots := kX.instanceTypes.map defaultValue, vm := .none } = T1 at X₁ st1
  have hcat : (Value.ref T.heap.size).category = 1 := rfl
  have hcellA : T1.heap[T.heap.size]? = some (freshCell cX kX) := by rw [← hT1]; exact State.heap_pushCell_size _ _
  have d3' : decode c.code (pc + 3) = .ok (.dup, 1) := by rw [hb]; exact d3
  have d4' : decode c.code (pc + 4) = .ok (.ldc is, 2) := by rw [hb]; exact d4
  have hstr' : vk_R own is text sa s' := vk_R.warm hW0 hstr
  obtain ⟨U, hsteps, hrun, hend, hW, hsame, ce, hce, hO⟩ := X₁.ctorThrowS hexec htr (own := own) (cls := cls) (names := names) (ic := ic) hown' hcls hnames h (fun x hx => nomatch hx) hfX hkX hcellA (by rw [hhp, hT]; exact Nat.le_refl _) (msg := .ref sa) rfl
    (g := { method := m, pc := pc + 6, locals := ls, stack := .ref sa :: .ref T.heap.size :: .ref T.heap.size :: rest, locked := none }) rfl hsize rfl rfl (rest := rest) rfl
    (by rw [hb]; exact d6) (by rw [hb]; exact d9) hout hRframes (by simp only [List.map_cons, List.sum_cons, hcat]; omega) hlocks
  obtain ⟨f1, f2⟩ := vx_frame hsame
  rw [hhp] at f1 f2
  have hWs : s.WarmedH U.vm := State.WarmedH.trans hW0 hW
  have hcl : s.vm.findClass cls = some ce.cls := by
    have h9 := hO.cls
    rw [hvm] at h9
    exact h9
  have hall : s.sameButNew ({ U with vm := s.vm } : State) locs mc ms := by
    subst hA
    obtain ⟨e1, e2⟩ := hsame
    rw [State.setFrames_setFrames] at e1
    have h2 : (T.setVm s.vm).sameButNew ({ U with vm := s.vm } : State) [] (0 + 1) (0 + 6) := ⟨e1, e2⟩
    have h3 := X.same.trans h2
    rw [List.append_nil] at h3
    exact h3.mono hc hs
  refine ⟨U, ?_, .threw T.heap.size, hrun, hend, Or.inr ⟨T.heap.size, rfl, cls, ce, locs, hx U hWs.alike f1 (fun q hq => f2 q hq (fun z hz => nomatch hz)), hce, hO.vm, hcl, hWs, hall, hf⟩⟩
  refine st1 _ ?_
  show Steps p.tables e below (T1.setTop { method := m, pc := pc + 3, locals := ls, stack := .ref T.heap.size :: rest, locked := none }) _
  jvm_step X₁.here [X₁.here.top, hexec, d3', Value.category]
  exact X₁.ldcString hexec (own := own) (text := text) (index := is) (a := sa) hown' hstr'.1 hstr'.2
    (g := { method := m, pc := pc + 4, locals := ls, stack := .ref T.heap.size :: .ref T.heap.size :: rest, locked := none }) rfl d4' _ hsteps
/-- 'throw new E("text")', the text by a wide index -/
theorem vx_throwSW {cc : ByteArray} {pc : Nat} (hexec : p.tables.exec = Jvm.exec) (hb : c.code = cc) (hl : l.stackTraces = false) {own cls text : String} {names : List String} {ik is ic mc ms sa : Nat} {A : Nat → Prop}
    (hown : s.vm.findClass own = some m.cls) (hcls : Bundle.fit cls = true) (hnames : ∀ n ∈ names, Bundle.fit n = true)
    (hk : (Cond.classLink own ik cls).before args s = true) (hini : (Cond.initialized cls).before args s = true) (hstr : vk_R own is text sa s) (hat : ∀ w ∈ vx_atS own ic cls names, w.before args s = true)
    (hgood : ∀ w ∈ Cond.classLink own ik cls :: Cond.initialized cls :: vx_atS own ic cls names, vx_ot w = true)
    (hU : vx_Zq Bundle.tN "UNASSIGNED_STACK" Bundle.steD A s s.heap) (hN : vx_Zq Bundle.tN "SUPPRESSED_SENTINEL" Bundle.listD A s s.heap) (hS : va_S A s.heap H locs) (hsize : ls.size = c.maxLocals)
    (d0 : decode cc pc = .ok (.new ik, 3)) (d3 : decode cc (pc + 3) = .ok (.dup, 1)) (d4 : decode cc (pc + 4) = .ok (.ldc_w is, 3)) (d7 : decode cc (pc + 7) = .ok (.invokespecial ic, 3)) (d10 : decode cc (pc + 10) = .ok (.athrow, 1))
    (hout : ∀ x ∈ c.exceptionTable.toList, covers x (pc + 10) = false)
    (hRframes : names.length + 3 < R.frames) (hRlocals : (rest.map fun v => v.category).sum + (13 * (names.length + 1) + 43) ≤ R.locals) (hRcells : cells + 1 ≤ R.cells) (hRslots : slots + 6 ≤ R.slots) (hlocks : meth.locks = false)
    (hx : ∀ t : State, s.vm.Alike t.vm → H.size ≤ t.heap.size → (∀ q : Nat, q < H.size → t.heap[q]? = H[q]?) → XC cls s t)
    (hf : ∀ z ∈ locs, free z.base) (hc : cells + 1 ≤ mc) (hs : slots + 6 ≤ ms) :
    W p l e R s m args below meth c H locs cells slots (vx_MQ below Qc XC args s mc ms free) (F0 m pc ls rest) := by
  intro T hT X
  have htr : e.platform.stackTraces = false := (show e.platform.stackTraces = l.stackTraces by rw [X.admits.platform]).trans hl
  have Y := vx_rebase X (R' := { frames := R.frames, locals := R.locals, cells := 1, slots := 6 }) (Nat.le_refl _) (Nat.le_refl _) hRcells hRslots
  obtain ⟨s', hA⟩ : ∃ z, z = (T.setVm s.vm).setFrames (.invoking m args :: below) := ⟨_, rfl⟩
  rw [← hA] at Y
  have hvm : s'.vm = s.vm := by rw [hA]; rfl
  have hhp : s'.heap = H := by rw [hA]; exact hT
  have hW0 : s.WarmedH s'.vm := by rw [hvm]; exact State.WarmedH.refl s
  have hat' : ∀ w ∈ vx_atS own ic cls names, w.before args s' = true := fun w hw => vx_ot_at hW0 hvm.symm (hgood w (List.mem_cons_of_mem _ (List.mem_cons_of_mem _ hw))) (hat w hw)
  have hk' : (Cond.classLink own ik cls).before args s' = true := vx_ot_at hW0 hvm.symm (hgood _ List.mem_cons_self) hk
  have hini' : (Cond.initialized cls).before args s' = true := vx_ot_at hW0 hvm.symm (hgood _ (List.mem_cons_of_mem _ List.mem_cons_self)) hini
  have hU' : vx_Zq Bundle.tN "UNASSIGNED_STACK" Bundle.steD A s' s'.heap := by rw [hhp]; exact vx_Zq.moved hW0.alike (hU.kept hS.2.1)
  have hN' : vx_Zq Bundle.tN "SUPPRESSED_SENTINEL" Bundle.listD A s' s'.heap := by rw [hhp]; exact vx_Zq.moved hW0.alike (hN.kept hS.2.1)
  have h : ∀ w ∈ Bundle.ownAtoms own ic cls names, w.before args s' = true := vx_own hat' (vx_isRefq hU'.1) (vx_isRefq hN'.1) hU'.2.word hN'.2.word
  have hown' : s'.vm.findClass own = some m.cls := by rw [hvm]; exact hown
  have hins : (Cond.instantiable cls 6).before args s' = true := h _ (by simp [Bundle.ownAtoms])
  obtain ⟨vm₁, cX, kX, hfX, hkX, -, -, X₁, st1⟩ := Y.newCold hexec (own := own) (C := cls) (index := ik) (n := 6) hown' hk' hins hini'
    (g := F0 m pc ls rest) rfl (by rw [hb]; exact d0) (Nat.le_refl _) (Nat.le_refl _)
  generalize hT1 : (T.setVm vm₁).pushCell { cls := cX, slots := kX.instanceTypes.map defaultValue, vm := .none } = T1 at X₁ st1
  have hcat : (Value.ref T.heap.size).category = 1 := rfl
  have hcellA : T1.heap[T.heap.size]? = some (freshCell cX kX) := by rw [← hT1]; exact State.heap_pushCell_size _ _
  have d3' : decode c.code (pc + 3) = .ok (.dup, 1) := by rw [hb]; exact d3
  have d4' : decode c.code (pc + 4) = .ok (.ldc_w is, 3) := by rw [hb]; exact d4
  have hstr' : vk_R own is text sa s' := vk_R.warm hW0 hstr
  obtain ⟨U, hsteps, hrun, hend, hW, hsame, ce, hce, hO⟩ := X₁.ctorThrowS hexec htr (own := own) (cls := cls) (names := names) (ic := ic) hown' hcls hnames h (fun x hx => nomatch hx) hfX hkX hcellA (by rw [hhp, hT]; exact Nat.le_refl _) (msg := .ref sa) rfl
    (g := { method := m, pc := pc + 7, locals := ls, stack := .ref sa :: .ref T.heap.size :: .ref T.heap.size :: rest, locked := none }) rfl hsize rfl rfl (rest := rest) rfl
    (by rw [hb]; exact d7) (by rw [hb]; exact d10) hout hRframes (by simp only [List.map_cons, List.sum_cons, hcat]; omega) hlocks
  obtain ⟨f1, f2⟩ := vx_frame hsame
  rw [hhp] at f1 f2
  have hWs : s.WarmedH U.vm := State.WarmedH.trans hW0 hW
  have hcl : s.vm.findClass cls = some ce.cls := by
    have h9 := hO.cls
    rw [hvm] at h9
    exact h9
  have hall : s.sameButNew ({ U with vm := s.vm } : State) locs mc ms := by
    subst hA
    obtain ⟨e1, e2⟩ := hsame
    rw [State.setFrames_setFrames] at e1
    have h2 : (T.setVm s.vm).sameButNew ({ U with vm := s.vm } : State) [] (0 + 1) (0 + 6) := ⟨e1, e2⟩
    have h3 := X.same.trans h2
    rw [List.append_nil] at h3
    exact h3.mono hc hs
  refine ⟨U, ?_, .threw T.heap.size, hrun, hend, Or.inr ⟨T.heap.size, rfl, cls, ce, locs, hx U hWs.alike f1 (fun q hq => f2 q hq (fun z hz => nomatch hz)), hce, hO.vm, hcl, hWs, hall, hf⟩⟩
  refine st1 _ ?_
  show Steps p.tables e below (T1.setTop { method := m, pc := pc + 3, locals := ls, stack := .ref T.heap.size :: rest, locked := none }) _
  jvm_step X₁.here [X₁.here.top, hexec, d3', Value.category]
  exact X₁.ldcStringW hexec (own := own) (text := text) (index := is) (a := sa) hown' hstr'.1 hstr'.2
    (g := { method := m, pc := pc + 4, locals := ls, stack := .ref T.heap.size :: .ref T.heap.size :: rest, locked := none }) rfl d4' _ hsteps
end Ends
section Bodies
variable {l : Launch}
theorem vx_ofW {y : MethodName} {ws ws' : List Cond} {rm : Room} {Pc : Array Value → State → Prop} {Qc : Array Value → State → Outcome → State → Prop} {XC : String → State → State → Prop} {mc ms : Nat} {free : Addr → Prop} {cc : ByteArray} {maxL : Nat} {ret : Option FieldType}
    (hy : plainName y.cls = true) (hw : ws = Cond.code y cc maxL ret :: ws')
    (body : ∀ p e s m args below meth c s₁, BodyLoose p l y (headSpec ws rm) cc maxL ret e s m args below meth c s₁ → c.maxLocals = maxL → (∀ x ∈ c.exceptionTable.toList, False) → Pc args s →
      W p l e (headSpec ws rm).room s m args below meth c s.heap [] 0 0 (vx_MQ below Qc XC args s mc ms free) (entryFrame m args maxL)) : vx_Met l y ws rm Pc Qc XC mc ms free := by
  refine MetFree.of_bodyS (code := cc) (maxLocals := maxL) (ret := ret) hy ?_ ?_
  · intro args s m h hn
    obtain ⟨meth, c, h1, h2, h3, h4, h5, h6, -, -⟩ := Cond.code_spec hn (atoms_spec (ws := ws) h _ (by rw [hw]; exact List.mem_cons_self))
    exact ⟨meth, c, h1, h2, h3, h4, h5, h6⟩
  · intro p e s m args below meth c s₁ B hml hP _
    have hh0 : s₁.heap = s.heap := by rw [B.state]; rfl
    have ht : ∀ x ∈ c.exceptionTable.toList, False := by
      obtain ⟨meth9, c9, h1, h2, -, -, -, -, h7, -⟩ := Cond.code_spec B.named (atoms_spec (ws := ws) B.pre _ (by rw [hw]; exact List.mem_cons_self))
      cases Option.some.inj (h1.symm.trans B.method)
      cases Option.some.inj (h2.symm.trans (Stand.of_body B).code)
      intro x hx
      rw [Array.isEmpty_iff.mp h7] at hx
      cases hx
    obtain ⟨t, a1, o, b1, b2, b3⟩ := body p e s m args below meth c s₁ B hml ht hP s₁ hh0 (Stand.of_body B)
    exact ⟨t, o, a1, b1, b2, b3⟩
/-- the table of a body with handlers -/
theorem vx_table {p : Program} {x y : MethodName} {S : Spec} {cc bytes : ByteArray} {maxL maxL' : Nat} {ret ret' : Option FieldType} {e : Env} {s s₁ : State} {m : MethodId} {args : Array Value} {below : List Frame} {meth : Method} {c : Code} {hh : List (Nat × Nat × Nat × Nat)}
    (B : BodyLoose p l y S cc maxL ret e s m args below meth c s₁) (h : (Cond.codeWith y bytes maxL' ret' hh).before args s = true) : c.exceptionTable.toList = tableOf hh := by
  obtain ⟨m9, meth9, c9, hn9, h1, h2, -, -, h6, -⟩ := Cond.codeWith_spec h
  cases Option.some.inj (hn9.symm.trans B.named)
  cases Option.some.inj (h1.symm.trans B.method)
  cases Option.some.inj (h2.symm.trans (Stand.of_body B).code)
  rw [← h6, table_eq]
end Bodies
end VXA
/-! ===== END ===== -/
/-! ===== BEGIN a static call of a method with an exception table ===== -/
section VXS
variable {p : Program} {l : Launch} {e : Env} {R : Room} {s : State} {m : MethodId} {args : Array Value} {below : List Frame} {meth : Method} {c : Code} {T : State} {H : Heap} {locs : List Loc} {cells slots : Nat}
abbrev vx_CSW (R : Room) (s : State) (args : Array Value) (own : String) (index : Nat) (y : MethodName) (bytes : ByteArray) (maxL : Nat) (ret : Option FieldType) (hh : List (Nat × Nat × Nat × Nat)) (ws : List Cond) (rm : Room) (mc ms n : Nat) : Prop :=
  (rm.cells = mc ∧ rm.slots = ms ∧ rm.frames + 1 ≤ R.frames ∧ 8 + (maxL + 11) + rm.locals ≤ R.locals ∧ (∀ w ∈ ws, ∀ (a' : Array Value) (U : State), s.WarmedH U.vm → w.before a' U = true) ∧ Cond.codeWith y bytes maxL ret hh ∈ ws) ∧
  (Cond.codeWith y bytes maxL ret hh).before args s = true ∧ (Cond.initialized y.cls).before args s = true ∧ (y.cls ≠ "java/lang/invoke/MethodHandle" ∧ y.cls ≠ "java/lang/invoke/VarHandle") ∧
  (∀ sig, parseMethodDescriptor y.desc = some sig → n = sig.parameters.length) ∧ (Cond.methodLink own index y).before args s = true ∧ (Cond.static y).before args s = true
theorem vx_cwSW {own : String} {index maxL mc ms : Nat} {y : MethodName} {bytes : ByteArray} {ret : Option FieldType} {hh : List (Nat × Nat × Nat × Nat)} {Ts ws ws' : List Cond} {rm : Room} (n : Nat) (ht : ∀ w ∈ Ts, w.before args s = true) (hT : GoodIn Ts (va_wsS own index y ws)) (hw : ws = Cond.codeWith y bytes maxL ret hh :: ws') (hrc : rm.cells = mc) (hrs : rm.slots = ms)
    (hd : y.cls ≠ "java/lang/invoke/MethodHandle" ∧ y.cls ≠ "java/lang/invoke/VarHandle" ∧ (parseMethodDescriptor y.desc).map (fun d => d.parameters.length) = some n) (hR : rm.frames + 1 ≤ R.frames ∧ 8 + (maxL + 11) + rm.locals ≤ R.locals) :
    vx_CSW R s args own index y bytes maxL ret hh ws rm mc ms n := by
  have ok : ∀ w ∈ va_wsS own index y ws, w.before args s = true := fun w h => ht w (hT w h).1
  have hG : GoodIn Ts ws := fun w h => hT w (by unfold va_wsS; exact List.mem_append_right _ h)
  have hc : Cond.codeWith y bytes maxL ret hh ∈ ws := by rw [hw]; exact List.mem_cons_self
  refine ⟨⟨hrc, hrs, hR.1, hR.2, pay_in ht hG, hc⟩, ht _ (hG _ hc).1, ok _ (by simp [va_wsS]), ⟨hd.1, hd.2.1⟩, fun sig h => ?_, ok _ (by simp [va_wsS]), ok _ (by simp [va_wsS])⟩
  have h2 := hd.2.2
  rw [h] at h2
  exact (Option.some.inj h2).symm
theorem vx_callSW (X : Stand p l e R s m args below meth c T locs cells slots) (hexec : p.tables.exec = Jvm.exec) {own : String} {index : Nat} {y : MethodName} {bytes : ByteArray} {maxL : Nat} {ret : Option FieldType} {hh : List (Nat × Nat × Nat × Nat)}
    (hown : s.vm.findClass own = some m.cls) (hlink : (Cond.methodLink own index y).before args s = true) (hstat : (Cond.static y).before args s = true) (hinit : (Cond.initialized y.cls).before args s = true)
    (hcode : (Cond.codeWith y bytes maxL ret hh).before args s = true) (hy : y.cls ≠ "java/lang/invoke/MethodHandle" ∧ y.cls ≠ "java/lang/invoke/VarHandle")
    {W9 : Nat} {Pre : Pt → Array Value → Prop} {Post : Pt → Array Value → Option Value → Pt → Prop} (hK : Back l R p e below s args y 3 W9 Pre Post)
    {g : JFrame} (hg : g.method = m) (hsize : g.locals.size = c.maxLocals) {argsL rest : List Value} (hlen : ∀ sig, parseMethodDescriptor y.desc = some sig → argsL.length = sig.parameters.length)
    (hstack : g.stack = argsL.reverse ++ rest) (hW : 2 * g.monitorRoom + (rest.map fun v => v.category).sum ≤ W9) (hdg : decode c.code g.pc = .ok (.invokestatic index, 3))
    (hpre : ∀ vm₁, s.WarmedH vm₁ → Pre ⟨T.setVm vm₁, locs, cells, slots⟩ argsL.toArray) :
    ∃ (v : Option Value) (vm₁ : Vm) (B : Pt), s.WarmedH vm₁ ∧ Stand p l e R s m args below meth c B.U B.locs B.cells B.slots ∧ Post ⟨T.setVm vm₁, locs, cells, slots⟩ argsL.toArray v B ∧
      ∀ target, Steps p.tables e below (B.U.setTop { g with pc := g.pc + 3, stack := v.toList ++ rest }) target → Steps p.tables e below (T.setTop g) target := by
  obtain ⟨mk, methM, cM, hnamed, hmethM, -, -, -, -, -, -, hsigM⟩ := Cond.codeWith_spec hcode
  have hstatic : methM.isStatic = true := Cond.static_spec hnamed hmethM hstat
  obtain ⟨kP, hkP, -⟩ := className_of_methodNamed hnamed
  have hinitP : kP.init = .initialized := Cond.initialized_spec (findClass_of_methodNamed hnamed) hkP hinit
  obtain ⟨vm₁, X₁, hstep₁⟩ := X.invokestatic hexec hown hlink hnamed hmethM hstatic hkP hinitP hy (g := g) hg (argsL := argsL) (rest := rest) (hlen _ hsigM) hstack hdg
  obtain ⟨v, B, X', hpost, hsteps⟩ := hK m meth c ⟨T.setVm vm₁, locs, cells, slots⟩ { g with stack := rest } (.invokestatic index) mk argsL.toArray X₁ hg hsize hdg hW (X₁.named hnamed) (hpre vm₁ X₁.warmed)
  exact ⟨v, vm₁, B, X₁.warmed, X', hpost, fun target h => hstep₁ _ fun acts => by rw [doInvoke_state]; exact hsteps.trans h⟩
theorem vx_runSW {y : MethodName} {bytes cc : ByteArray} {maxL nL mc ms n index : Nat} {ret : Option FieldType} {hh : List (Nat × Nat × Nat × Nat)} {ws : List Cond} {rm : Room} {Pc : Array Value → State → Prop} {Qc : Array Value → State → Outcome → State → Prop} {free : Addr → Prop} {Ts : List Cond} {own : String} {As rest : List Value} {g : JFrame}
    (S : CallFix p m c cc nL s args Ts own) (hM : Met l y ws rm Pc Qc mc ms free) (cw : vx_CSW R s args own index y bytes maxL ret hh ws rm mc ms n) (hp : PreS s H Pc As)
    (hg : g.method = m) (hn : As.length = n) (hsize : g.locals.size = nL) (hstack : g.stack = As.reverse ++ rest) (hW : 2 * g.monitorRoom + (rest.map fun v => v.category).sum ≤ 8) (hdg : decode cc g.pc = .ok (.invokestatic index, 3)) (hf : cells + mc ≤ R.cells ∧ slots + ms ≤ R.slots) :
    va_Run p l e R s m args below meth c H locs cells slots mc ms g rest (Qc As.toArray) (free) := by
  obtain ⟨⟨hrc, hrs, hfr, hlo, hws, hcw⟩, hcode, hini, hy, hlen, hl, hstt⟩ := cw
  have hK : Back l R p e below s args y 3 8 (PreOf R mc ms Pc) (PostOf Qc mc ms free) := va_backW (hh := hh) (bytes := bytes) (maxL := maxL) (ret := ret) hM hp.1 hrc hrs hfr hlo hws hcw (fun a' U hW => word_at hW (Or.inl (by first | rfl | simp [Cond.onTables, Cond.keeps, Cond.steady])) hini)
  obtain ⟨hx, hb, hml, ho, -⟩ := S
  intro T hT X
  obtain ⟨v, vm₁, ⟨U', l2, c2, s2⟩, hW₁, X', ⟨g', mk, t, L, e1, e2, hq, h1, hL, h2, h3⟩, st⟩ := vx_callSW X hx (hh := hh) (bytes := bytes) (maxL := maxL) (ret := ret) ho hl hstt hini hcode hy hK hg (hsize.trans hml.symm) (argsL := As) (rest := rest) (fun sig h => hn.trans (hlen sig h)) hstack hW (by rw [hb]; exact hdg)
    (fun vm₁ hW₁ => ⟨hf.1, hf.2, hp.2 (T.setVm vm₁) hT hW₁⟩)
  dsimp only [Pt.U, Pt.locs, Pt.cells, Pt.slots] at X' e1 e2 h1 h2 h3 st
  subst h1; subst h2; subst h3
  exact ⟨v, (T.setVm vm₁).calling g' mk As.toArray, t, U', L, hT, X', hL, e1, e2, hq, st⟩
/-- not caught here, past rows that name other classes: it goes on to the caller -/
theorem vx_outP {p : Program} {l : Launch} {e : Env} {R : Room} {s : State} {m : MethodId} {args : Array Value} {below : List Frame} {meth : Method} {c : Code} {H : Heap} {locs : List Loc} {cells slots : Nat} {free : Addr → Prop} {ls : Array Slot} {rest : List Value} {Qc : Array Value → State → Outcome → State → Prop} {XC : String → State → State → Prop}
    {pc : Nat} {own E : String} {ce : Cell} {q : Addr} {mc ms : Nat} (hown : s.vm.findClass own = some m.cls) (hlocks : meth.locks = false)
    (hpass : ∀ z ∈ c.exceptionTable.toList, covers z pc = false ∨ (z.catchType ≠ 0 ∧ ∃ nm : String, (Cond.classLink own z.catchType nm).before args s = true ∧ va_Nc E nm s)) (hcell : H[q]? = some ce) (hv : ce.vm = .none) (hcl : s.vm.findClass E = some ce.cls)
    (hx : ∀ t : State, t.heap = H → s.vm.Alike t.vm → XC E s t) (hf : ∀ z ∈ locs, free z.base) (hc : cells ≤ mc) (hs : slots ≤ ms) :
    vx_W p l e R s m args below meth c H locs cells slots (vx_MQ below Qc XC args s mc ms free) (F0 m pc ls rest) q := by
  intro T hT X
  have hpl : e.platform.magicAccessors = ({} : Platform).magicAccessors := by rw [X.admits.platform]
  obtain ⟨vm', hW', X', st⟩ := X.outThrough hlocks q (g := F0 m pc ls rest) rfl rfl rfl (cell := ce) (by rw [hT]; exact hcell) (by rw [hv]; rfl)
    (by obtain ⟨k9, h9, -⟩ := Vm.findClass_spec hcl; exact ⟨k9, h9⟩) (fun z hz => by
      rcases hpass z hz with h | ⟨hz0, nm, hl1, hn1⟩
      · exact Or.inl h
      · obtain ⟨c6, hc6, hcl6⟩ := Cond.classLink_spec hown hl1 e.platform hpl
        obtain ⟨a8, b8, h1, h2, h3⟩ := hn1
        cases Option.some.inj (h1.symm.trans hcl)
        cases Option.some.inj (h2.symm.trans hc6)
        exact Or.inr ⟨hz0, _, hcl6, h3⟩)
  obtain ⟨g₀, hfr⟩ := X'.frames_eq
  have hcell9 : ((T.setVm vm').setFrames (.throwing q :: below)).heap[q]? = some ce := by
    show T.heap[q]? = some ce
    rw [hT]; exact hcell
  have hend : Ended ((T.setVm vm').setFrames (.throwing q :: below)) below (.threw q) := State.frames_setFrames _ (State.cur_lt_of_frames hfr)
  refine ⟨(T.setVm vm').setFrames (.throwing q :: below), ?_, .threw q, X'.here.running, hend, Or.inr ⟨q, rfl, E, ce, locs, hx _ hT (X'.ends _).1.alike, hcell9, hv, hcl, (X'.ends _).1, (X'.ends _).2.mono hc hs, hf⟩⟩
  rw [X.pushThrowing_eq]
  exact st
/-- a thing of a world lies in the heap -/
theorem vx_lt {D : va_G} {cl : List vw_C} {ws : va_W} {H1 : Heap} (h : va_P D cl ws H1) {k : Nat} {q : Nat × va_E} (hk : ws[k]? = some q) : q.1 < H1.size := (h k q hk).lt
end VXS
/-! ===== END ===== -/
/-! ===== BEGIN methods with a table of their own: called by a name, returning or throwing ===== -/
section VXH
/-! vx_backW, vx_callVX, vx_callSX, vx_callVW, vx_runVW, vx_runVX, vx_runSX, vx_ofWH follow the same proofs as their sisters above (Free/Laws.lean, Shelf42/LK1.lean); vx_outP calls Shelf42/NT130.lean (outThrough). -/
section
variable {l : Launch} {R : Room} {p : Program} {e : Env} {below : List Frame} {s : State} {sargs : Array Value} {y : MethodName} {len W9 : Nat}
theorem vx_backW {ws : List Cond} {rm : Room} {Pc : Array Value → State → Prop} {Qc : Array Value → State → Outcome → State → Prop} {XC : String → State → State → Prop} {mc ms : Nat} {free : Addr → Prop} {bytes : ByteArray} {maxL : Nat} {ret : Option FieldType} {hh : List (Nat × Nat × Nat × Nat)}
    (hM : vx_Met l y ws rm Pc Qc XC mc ms free) (hblind : FrameBlind Pc) (hrc : rm.cells = mc) (hrs : rm.slots = ms)
    (hframes : rm.frames + 1 ≤ R.frames) (hlocals : W9 + (maxL + 11) + rm.locals ≤ R.locals)
    (hws : ∀ w ∈ ws, ∀ a' U, s.WarmedH U.vm → w.before a' U = true) (hcode : Cond.codeWith y bytes maxL ret hh ∈ ws) (hinit : ∀ a' U, s.WarmedH U.vm → (Cond.initialized y.cls).before a' U = true) :
    vx_Back l R p e below s sargs y len W9 (PreOf R mc ms Pc) (PostOf Qc mc ms free) (vx_Post XC mc ms free) := by
  intro m meth c A g ig mk a X hg hsize hdg hW hn hp
  have h1 : (headSpec ws rm).pre.before a A.U = true := atoms_intro fun w hw => hws w hw _ _ X.warmed
  have h2 : (Cond.codeWith y bytes maxL ret hh).before a A.U = true := hws _ hcode _ _ X.warmed
  have h3 : (Cond.initialized y.cls).before a A.U = true := hinit _ _ X.warmed
  have h4 : A.cells + (headSpec ws rm).room.cells ≤ R.cells := by rw [show (headSpec ws rm).room.cells = mc from hrc]; exact hp.1
  have h5 : A.slots + (headSpec ws rm).room.slots ≤ R.slots := by rw [show (headSpec ws rm).room.slots = ms from hrs]; exact hp.2.1
  have hPc : Pc a (A.U.calling g mk a) := hblind _ _ _ _ hp.2.2
  obtain ⟨U, Ls, c0, s0⟩ := A
  dsimp only [Pt.U, Pt.locs, Pt.cells, Pt.slots] at h1 h2 h3 h4 h5 X hn hPc ⊢
  obtain ⟨m9, methY, cY, hn9, hmY, hcY, -, hlY, -⟩ := Cond.codeWith_spec h2
  cases Option.some.inj (hn9.symm.trans hn)
  obtain ⟨kY, hkY, -⟩ := className_of_methodNamed hn
  have hinitY : kY.init = .initialized := Cond.initialized_spec (findClass_of_methodNamed hn) hkY h3
  have h : At U g.method c below := by rw [hg]; exact X.here
  have hlocals9 : W9 + (maxL + 11) + (headSpec ws rm).room.locals ≤ R.locals := hlocals
  have happ : (headSpec ws rm).appliesLoose y e.platform (U.calling g mk a) = true :=
    Spec.appliesLoose_calling (g := g) h hdg hn hkY hinitY
      (X.room_calling (g := g) (R' := (headSpec ws rm).room) hsize hmY hcY hframes (by rw [hlY]; omega) h4 h5) h1
  obtain ⟨mid, hmid⟩ := h.above
  have hfr : (U.setTop g).frames = (.java g :: mid) ++ below := by rw [State.frames_setTop' g h.top, hmid]; rfl
  obtain ⟨o, s₂, hsteps, -, hend, hq⟩ := Steps.callFree hM p X.admits X.cas X.clock (acts := []) hfr happ hPc trivial
  have hq' : vx_Q Qc XC mc ms free a (U.calling g mk a) o s₂ := hq
  rw [State.frames_setTop' g h.top] at hend
  obtain ⟨g₀, hg0⟩ := Option.isSome_iff_exists.mp h.top
  obtain ⟨r, hr⟩ := State.topJava?_eq_some.mp hg0
  have hr' : (({ U with heap := s₂.heap, slotsUsed := s₂.slotsUsed } : State).setVm s₂.vm).frames = .java g₀ :: r := hr
  rcases hq' with ⟨hqc, L, hfe, hL⟩ | ⟨q, rfl, E, ce, L, hx, hce, hcv, hcl, hW₂, hsm, hL⟩
  · obtain ⟨⟨v, rfl⟩, hW₂, e2, q2, q3, q4, q5, q6⟩ := id hfe
    have e3 : s₂ = ({ (U.calling g mk a).setFrames s₂.frames with heap := s₂.heap, slotsUsed := s₂.slotsUsed } : State).setVm s₂.vm := by
      have : s₂ = ({ s₂ with vm := (U.calling g mk a).vm } : State).setVm s₂.vm := rfl
      rw [e2] at this
      exact this
    obtain ⟨c₂, i₂, len₂, hc₂, hd₂, hf₂⟩ := hend
    have hW' : U.WarmedH s₂.vm := hW₂
    have hcc : c₂ = c := by
      have h1 : s₂.code? g.method = U.code? g.method := by
        rw [State.code?_eq, State.code?_eq, hW'.alike.method?]
      exact Option.some.inj (hc₂.symm.trans (h1.trans h.code))
    subst hcc
    have hlen : len₂ = len := by rw [hdg] at hd₂; cases hd₂; rfl
    subst hlen
    have hs₂ : s₂ = (({ U with heap := s₂.heap, slotsUsed := s₂.slotsUsed } : State).setVm s₂.vm).setTop { g with pc := g.pc + len₂, stack := v.toList ++ g.stack } := by
      refine e3.trans ?_
      rw [hf₂, State.calling_eq h.top, State.setFrames_setFrames, State.setTop_of_frames _ hr', hr]
      rfl
    have hsame : U.sameButNew ({ U with heap := s₂.heap, slotsUsed := s₂.slotsUsed } : State) L mc ms := by
      refine ⟨?_, q2, q3, q4, q5, q6⟩
      obtain ⟨t, ht, -⟩ := State.frames_cons hr
      show ({ U with heap := s₂.heap, slotsUsed := s₂.slotsUsed } : State) = { U.setFrames U.frames with heap := s₂.heap, slotsUsed := s₂.slotsUsed }
      rw [State.setFrames_self ht]
    subst hg
    refine Or.inl ⟨v, ⟨(({ U with heap := s₂.heap, slotsUsed := s₂.slotsUsed } : State).setVm s₂.vm), Ls ++ L, c0 + mc, s0 + ms⟩,
      ⟨X.admits, X.cas, X.clock, X.frames, X.room, X.hears, X.method, X.code, (X.here.setHeapUsed s₂.heap s₂.slotsUsed).setVm hW'.alike, X.tail, State.WarmedH.trans X.warmed hW', X.limits, X.bytes, X.same.trans (hsame.setVm s.vm)⟩,
      ⟨g, mk, s₂, L, rfl, rfl, hqc, rfl, hL, rfl, rfl⟩, ?_⟩
    show Steps p.tables e below _ ((({ U with heap := s₂.heap, slotsUsed := s₂.slotsUsed } : State).setVm s₂.vm).setTop { g with pc := g.pc + len₂, stack := v.toList ++ g.stack })
    rw [← hs₂]
    exact hsteps
  · obtain ⟨e2, q2, q3, q4, q5, q6⟩ := id hsm
    have e3 : s₂ = ({ (U.calling g mk a).setFrames s₂.frames with heap := s₂.heap, slotsUsed := s₂.slotsUsed } : State).setVm s₂.vm := by
      have : s₂ = ({ s₂ with vm := (U.calling g mk a).vm } : State).setVm s₂.vm := rfl
      rw [e2] at this
      exact this
    have hf₂ : s₂.frames = .throwing q :: .java g :: U.frames.tail := hend
    have hW' : U.WarmedH s₂.vm := hW₂
    have hs₂ : s₂ = ((({ U with heap := s₂.heap, slotsUsed := s₂.slotsUsed } : State).setVm s₂.vm).setTop g).pushFrame (.throwing q) := by
      refine e3.trans ?_
      rw [hf₂, State.calling_eq h.top, State.setFrames_setFrames, State.pushFrame, State.frames_setTop _ hr', State.setTop_of_frames _ hr', State.setFrames_setFrames, hr]
      rfl
    have hsame : U.sameButNew ({ U with heap := s₂.heap, slotsUsed := s₂.slotsUsed } : State) L mc ms := by
      refine ⟨?_, q2, q3, q4, q5, q6⟩
      obtain ⟨t, ht, -⟩ := State.frames_cons hr
      show ({ U with heap := s₂.heap, slotsUsed := s₂.slotsUsed } : State) = { U.setFrames U.frames with heap := s₂.heap, slotsUsed := s₂.slotsUsed }
      rw [State.setFrames_self ht]
    subst hg
    refine Or.inr ⟨q, ⟨(({ U with heap := s₂.heap, slotsUsed := s₂.slotsUsed } : State).setVm s₂.vm), Ls ++ L, c0 + mc, s0 + ms⟩,
      ⟨X.admits, X.cas, X.clock, X.frames, X.room, X.hears, X.method, X.code, (X.here.setHeapUsed s₂.heap s₂.slotsUsed).setVm hW'.alike, X.tail, State.WarmedH.trans X.warmed hW', X.limits, X.bytes, X.same.trans (hsame.setVm s.vm)⟩,
      ⟨g, mk, s₂, L, E, ce, rfl, rfl, hx, hce, hcv, hcl, rfl, hL, rfl, rfl⟩, ?_⟩
    show Steps p.tables e below _ (((({ U with heap := s₂.heap, slotsUsed := s₂.slotsUsed } : State).setVm s₂.vm).setTop g).pushFrame (.throwing q))
    rw [← hs₂]
    exact hsteps
end
variable {p : Program} {l : Launch} {e : Env} {R : Room} {s : State} {m : MethodId} {args : Array Value} {below : List Frame} {meth : Method} {c : Code} {T : State} {H : Heap} {locs : List Loc} {cells slots : Nat}
theorem vx_callVX (X : Stand p l e R s m args below meth c T locs cells slots) (hexec : p.tables.exec = Jvm.exec) {own C : String} {index : Nat} {y : MethodName} {bytes : ByteArray} {maxL : Nat} {ret : Option FieldType} {hh : List (Nat × Nat × Nat × Nat)}
    (hown : s.vm.findClass own = some m.cls) (hlink : (Cond.methodLink own index y).before args s = true) (hinst : (Cond.instanceMethod y).before args s = true) (hsel : (Cond.selects C y y).before args s = true)
    (hcode : (Cond.codeWith y bytes maxL ret hh).before args s = true) (hy : y.cls ≠ "java/lang/invoke/MethodHandle" ∧ y.cls ≠ "java/lang/invoke/VarHandle")
    {W9 : Nat} {Pre : Pt → Array Value → Prop} {Post : Pt → Array Value → Option Value → Pt → Prop} {PostX : Pt → Array Value → Addr → Pt → Prop} (hK : vx_Back l R p e below s args y 3 W9 Pre Post PostX)
    {b : Addr} {cellB : Cell} (hcell : T.heap[b]? = some cellB) (hobj : cellB.vm.isStatics = false) (hcls : s.vm.findClass C = some cellB.cls)
    {g : JFrame} (hg : g.method = m) (hsize : g.locals.size = c.maxLocals) {argsL rest : List Value} (hlen : ∀ sig, parseMethodDescriptor y.desc = some sig → argsL.length = sig.parameters.length)
    (hstack : g.stack = argsL.reverse ++ .ref b :: rest) (hW : 2 * g.monitorRoom + (rest.map fun v => v.category).sum ≤ W9) (hdg : decode c.code g.pc = .ok (.invokevirtual index, 3))
    (hpre : ∀ vm₁, s.WarmedH vm₁ → Pre ⟨T.setVm vm₁, locs, cells, slots⟩ (Value.ref b :: argsL).toArray) :
    (∃ (v : Option Value) (vm₁ : Vm) (B : Pt), s.WarmedH vm₁ ∧ Stand p l e R s m args below meth c B.U B.locs B.cells B.slots ∧ Post ⟨T.setVm vm₁, locs, cells, slots⟩ (Value.ref b :: argsL).toArray v B ∧
      ∀ target, Steps p.tables e below (B.U.setTop { g with pc := g.pc + 3, stack := v.toList ++ rest }) target → Steps p.tables e below (T.setTop g) target) ∨
    (∃ (q : Addr) (vm₁ : Vm) (B : Pt), s.WarmedH vm₁ ∧ Stand p l e R s m args below meth c B.U B.locs B.cells B.slots ∧ PostX ⟨T.setVm vm₁, locs, cells, slots⟩ (Value.ref b :: argsL).toArray q B ∧
      Steps p.tables e below (T.setTop g) ((B.U.setTop { g with stack := rest }).pushFrame (.throwing q))) := by
  obtain ⟨mk, methM, hnamed, hmethM, hstM, habM⟩ := Cond.instanceMethod_spec hinst
  obtain ⟨m8, methM', cM, hn8, hmethM', -, -, -, -, -, -, hsigM⟩ := Cond.codeWith_spec hcode
  cases Option.some.inj (hn8.symm.trans hnamed)
  cases hmethM.symm.trans hmethM'
  obtain ⟨c2, r2, m2, q1, q2, q3, q4, kP, hkP, hkPi⟩ := Cond.selects_spec hsel
  cases hcls.symm.trans q1
  cases (State.methodFound?_of_named hnamed hy).symm.trans q2
  cases hnamed.symm.trans q3
  have hselP : selectMethod e.platform s.vm cellB.cls mk = .method mk := by rw [Launch.admits_selectMethod X.admits]; exact q4
  obtain ⟨vm₁, X₁, hstep₁⟩ := X.invokevirtual hexec hown hlink hnamed hmethM hstM hkP hkPi hy (a := b) (cell := cellB) hcell
    (fun z h => by rw [h] at hobj; cases hobj) hselP hmethM habM hkP hkPi (g := g) hg (argsL := argsL) (rest := rest) (hlen _ hsigM) hstack hdg
  rcases hK m meth c ⟨T.setVm vm₁, locs, cells, slots⟩ { g with stack := rest } (.invokevirtual index) mk (Value.ref b :: argsL).toArray X₁ hg hsize hdg hW (X₁.named hnamed) (hpre vm₁ X₁.warmed) with ⟨v, B, X', hpost, hsteps⟩ | ⟨q, B, X', hpost, hsteps⟩
  · exact Or.inl ⟨v, vm₁, B, X₁.warmed, X', hpost, fun target h => hstep₁ _ fun acts => by rw [doInvoke_state]; exact hsteps.trans h⟩
  · exact Or.inr ⟨q, vm₁, B, X₁.warmed, X', hpost, hstep₁ _ fun acts => by rw [doInvoke_state]; exact hsteps⟩
theorem vx_callSX (X : Stand p l e R s m args below meth c T locs cells slots) (hexec : p.tables.exec = Jvm.exec) {own : String} {index : Nat} {y : MethodName} {bytes : ByteArray} {maxL : Nat} {ret : Option FieldType} {hh : List (Nat × Nat × Nat × Nat)}
    (hown : s.vm.findClass own = some m.cls) (hlink : (Cond.methodLink own index y).before args s = true) (hstat : (Cond.static y).before args s = true) (hinit : (Cond.initialized y.cls).before args s = true)
    (hcode : (Cond.codeWith y bytes maxL ret hh).before args s = true) (hy : y.cls ≠ "java/lang/invoke/MethodHandle" ∧ y.cls ≠ "java/lang/invoke/VarHandle")
    {W9 : Nat} {Pre : Pt → Array Value → Prop} {Post : Pt → Array Value → Option Value → Pt → Prop} {PostX : Pt → Array Value → Addr → Pt → Prop} (hK : vx_Back l R p e below s args y 3 W9 Pre Post PostX)
    {g : JFrame} (hg : g.method = m) (hsize : g.locals.size = c.maxLocals) {argsL rest : List Value} (hlen : ∀ sig, parseMethodDescriptor y.desc = some sig → argsL.length = sig.parameters.length)
    (hstack : g.stack = argsL.reverse ++ rest) (hW : 2 * g.monitorRoom + (rest.map fun v => v.category).sum ≤ W9) (hdg : decode c.code g.pc = .ok (.invokestatic index, 3))
    (hpre : ∀ vm₁, s.WarmedH vm₁ → Pre ⟨T.setVm vm₁, locs, cells, slots⟩ argsL.toArray) :
    (∃ (v : Option Value) (vm₁ : Vm) (B : Pt), s.WarmedH vm₁ ∧ Stand p l e R s m args below meth c B.U B.locs B.cells B.slots ∧ Post ⟨T.setVm vm₁, locs, cells, slots⟩ argsL.toArray v B ∧
      ∀ target, Steps p.tables e below (B.U.setTop { g with pc := g.pc + 3, stack := v.toList ++ rest }) target → Steps p.tables e below (T.setTop g) target) ∨
    (∃ (q : Addr) (vm₁ : Vm) (B : Pt), s.WarmedH vm₁ ∧ Stand p l e R s m args below meth c B.U B.locs B.cells B.slots ∧ PostX ⟨T.setVm vm₁, locs, cells, slots⟩ argsL.toArray q B ∧
      Steps p.tables e below (T.setTop g) ((B.U.setTop { g with stack := rest }).pushFrame (.throwing q))) := by
  obtain ⟨mk, methM, cM, hnamed, hmethM, -, -, -, -, -, -, hsigM⟩ := Cond.codeWith_spec hcode
  have hstatic : methM.isStatic = true := Cond.static_spec hnamed hmethM hstat
  obtain ⟨kP, hkP, -⟩ := className_of_methodNamed hnamed
  have hinitP : kP.init = .initialized := Cond.initialized_spec (findClass_of_methodNamed hnamed) hkP hinit
  obtain ⟨vm₁, X₁, hstep₁⟩ := X.invokestatic hexec hown hlink hnamed hmethM hstatic hkP hinitP hy (g := g) hg (argsL := argsL) (rest := rest) (hlen _ hsigM) hstack hdg
  rcases hK m meth c ⟨T.setVm vm₁, locs, cells, slots⟩ { g with stack := rest } (.invokestatic index) mk argsL.toArray X₁ hg hsize hdg hW (X₁.named hnamed) (hpre vm₁ X₁.warmed) with ⟨v, B, X', hpost, hsteps⟩ | ⟨q, B, X', hpost, hsteps⟩
  · exact Or.inl ⟨v, vm₁, B, X₁.warmed, X', hpost, fun target h => hstep₁ _ fun acts => by rw [doInvoke_state]; exact hsteps.trans h⟩
  · exact Or.inr ⟨q, vm₁, B, X₁.warmed, X', hpost, hstep₁ _ fun acts => by rw [doInvoke_state]; exact hsteps⟩
theorem vx_callVW (X : Stand p l e R s m args below meth c T locs cells slots) (hexec : p.tables.exec = Jvm.exec) {own C : String} {index : Nat} {y : MethodName} {bytes : ByteArray} {maxL : Nat} {ret : Option FieldType} {hh : List (Nat × Nat × Nat × Nat)}
    (hown : s.vm.findClass own = some m.cls) (hlink : (Cond.methodLink own index y).before args s = true) (hinst : (Cond.instanceMethod y).before args s = true) (hsel : (Cond.selects C y y).before args s = true)
    (hcode : (Cond.codeWith y bytes maxL ret hh).before args s = true) (hy : y.cls ≠ "java/lang/invoke/MethodHandle" ∧ y.cls ≠ "java/lang/invoke/VarHandle")
    {W9 : Nat} {Pre : Pt → Array Value → Prop} {Post : Pt → Array Value → Option Value → Pt → Prop} (hK : Back l R p e below s args y 3 W9 Pre Post)
    {b : Addr} {cellB : Cell} (hcell : T.heap[b]? = some cellB) (hobj : cellB.vm.isStatics = false) (hcls : s.vm.findClass C = some cellB.cls)
    {g : JFrame} (hg : g.method = m) (hsize : g.locals.size = c.maxLocals) {argsL rest : List Value} (hlen : ∀ sig, parseMethodDescriptor y.desc = some sig → argsL.length = sig.parameters.length)
    (hstack : g.stack = argsL.reverse ++ .ref b :: rest) (hW : 2 * g.monitorRoom + (rest.map fun v => v.category).sum ≤ W9) (hdg : decode c.code g.pc = .ok (.invokevirtual index, 3))
    (hpre : ∀ vm₁, s.WarmedH vm₁ → Pre ⟨T.setVm vm₁, locs, cells, slots⟩ (Value.ref b :: argsL).toArray) :
    ∃ (v : Option Value) (vm₁ : Vm) (B : Pt), s.WarmedH vm₁ ∧ Stand p l e R s m args below meth c B.U B.locs B.cells B.slots ∧ Post ⟨T.setVm vm₁, locs, cells, slots⟩ (Value.ref b :: argsL).toArray v B ∧
      ∀ target, Steps p.tables e below (B.U.setTop { g with pc := g.pc + 3, stack := v.toList ++ rest }) target → Steps p.tables e below (T.setTop g) target := by
  obtain ⟨mk, methM, hnamed, hmethM, hstM, habM⟩ := Cond.instanceMethod_spec hinst
  obtain ⟨m8, methM', cM, hn8, hmethM', -, -, -, -, -, -, hsigM⟩ := Cond.codeWith_spec hcode
  cases Option.some.inj (hn8.symm.trans hnamed)
  cases hmethM.symm.trans hmethM'
  obtain ⟨c2, r2, m2, q1, q2, q3, q4, kP, hkP, hkPi⟩ := Cond.selects_spec hsel
  cases hcls.symm.trans q1
  cases (State.methodFound?_of_named hnamed hy).symm.trans q2
  cases hnamed.symm.trans q3
  have hselP : selectMethod e.platform s.vm cellB.cls mk = .method mk := by rw [Launch.admits_selectMethod X.admits]; exact q4
  obtain ⟨vm₁, X₁, hstep₁⟩ := X.invokevirtual hexec hown hlink hnamed hmethM hstM hkP hkPi hy (a := b) (cell := cellB) hcell
    (fun z h => by rw [h] at hobj; cases hobj) hselP hmethM habM hkP hkPi (g := g) hg (argsL := argsL) (rest := rest) (hlen _ hsigM) hstack hdg
  obtain ⟨v, B, X', hpost, hsteps⟩ := hK m meth c ⟨T.setVm vm₁, locs, cells, slots⟩ { g with stack := rest } (.invokevirtual index) mk (Value.ref b :: argsL).toArray X₁ hg hsize hdg hW (X₁.named hnamed) (hpre vm₁ X₁.warmed)
  exact ⟨v, vm₁, B, X₁.warmed, X', hpost, fun target h => hstep₁ _ fun acts => by rw [doInvoke_state]; exact hsteps.trans h⟩
abbrev vx_CVW (R : Room) (s : State) (args : Array Value) (own C : String) (index : Nat) (y : MethodName) (bytes : ByteArray) (maxL : Nat) (ret : Option FieldType) (hh : List (Nat × Nat × Nat × Nat)) (ws : List Cond) (rm : Room) (mc ms n : Nat) : Prop :=
  (rm.cells = mc ∧ rm.slots = ms ∧ rm.frames + 1 ≤ R.frames ∧ 8 + (maxL + 11) + rm.locals ≤ R.locals ∧ (∀ w ∈ ws, ∀ (a' : Array Value) (U : State), s.WarmedH U.vm → w.before a' U = true) ∧ Cond.codeWith y bytes maxL ret hh ∈ ws) ∧
  (Cond.codeWith y bytes maxL ret hh).before args s = true ∧ (Cond.initialized y.cls).before args s = true ∧ (y.cls ≠ "java/lang/invoke/MethodHandle" ∧ y.cls ≠ "java/lang/invoke/VarHandle") ∧
  (∀ sig, parseMethodDescriptor y.desc = some sig → n = sig.parameters.length) ∧ (Cond.methodLink own index y).before args s = true ∧ (Cond.instanceMethod y).before args s = true ∧ (Cond.selects C y y).before args s = true
theorem vx_cwVW {own C : String} {index maxL mc ms : Nat} {y : MethodName} {bytes : ByteArray} {ret : Option FieldType} {hh : List (Nat × Nat × Nat × Nat)} {Ts ws ws' : List Cond} {rm : Room} (n : Nat) (ht : ∀ w ∈ Ts, w.before args s = true) (hT : GoodIn Ts (wsV own index C y ws)) (hw : ws = Cond.codeWith y bytes maxL ret hh :: ws') (hrc : rm.cells = mc) (hrs : rm.slots = ms)
    (hd : y.cls = C ∧ y.cls ≠ "java/lang/invoke/MethodHandle" ∧ y.cls ≠ "java/lang/invoke/VarHandle" ∧ (parseMethodDescriptor y.desc).map (fun d => d.parameters.length) = some n) (hR : rm.frames + 1 ≤ R.frames ∧ 8 + (maxL + 11) + rm.locals ≤ R.locals) :
    vx_CVW R s args own C index y bytes maxL ret hh ws rm mc ms n := by
  obtain ⟨hC, hd⟩ := hd
  subst hC
  have ok : ∀ w ∈ wsV own index y.cls y ws, w.before args s = true := fun w h => ht w (hT w h).1
  have hG : GoodIn Ts ws := fun w h => hT w (by unfold wsV; exact List.mem_append_right _ h)
  have hc : Cond.codeWith y bytes maxL ret hh ∈ ws := by rw [hw]; exact List.mem_cons_self
  refine ⟨⟨hrc, hrs, hR.1, hR.2, pay_in ht hG, hc⟩, ht _ (hG _ hc).1, ok _ (by simp [wsV]), ⟨hd.1, hd.2.1⟩, fun sig h => ?_, ok _ (by simp [wsV]), ok _ (by simp [wsV]), ok _ (by simp [wsV])⟩
  have h2 := hd.2.2
  rw [h] at h2
  exact (Option.some.inj h2).symm
theorem vx_runVW {y : MethodName} {bytes cc : ByteArray} {maxL nL mc ms n index : Nat} {ret : Option FieldType} {hh : List (Nat × Nat × Nat × Nat)} {ws : List Cond} {rm : Room} {Pc : Array Value → State → Prop} {Qc : Array Value → State → Outcome → State → Prop} {free : Addr → Prop} {Ts : List Cond} {own C : String} {b : Addr} {As rest : List Value} {g : JFrame}
    (S : CallFix p m c cc nL s args Ts own) (hM : Met l y ws rm Pc Qc mc ms free) (cw : vx_CVW R s args own C index y bytes maxL ret hh ws rm mc ms n) (hp : PreV s H C b Pc As)
    (hg : g.method = m) (hn : As.length = n) (hsize : g.locals.size = nL) (hstack : g.stack = As.reverse ++ .ref b :: rest) (hW : 2 * g.monitorRoom + (rest.map fun v => v.category).sum ≤ 8) (hdg : decode cc g.pc = .ok (.invokevirtual index, 3)) (hf : cells + mc ≤ R.cells ∧ slots + ms ≤ R.slots) :
    va_Run p l e R s m args below meth c H locs cells slots mc ms g rest (Qc (Value.ref b :: As).toArray) free := by
  obtain ⟨⟨hrc, hrs, hfr, hlo, hws, hcw⟩, hcode, hini, hy, hlen, hl, hin, hse⟩ := cw
  have hK : Back l R p e below s args y 3 8 (PreOf R mc ms Pc) (PostOf Qc mc ms free) := va_backW (hh := hh) (bytes := bytes) (maxL := maxL) (ret := ret) hM hp.1 hrc hrs hfr hlo hws hcw (fun a' U hW => word_at hW (Or.inl (by first | rfl | simp [Cond.onTables, Cond.keeps, Cond.steady])) hini)
  obtain ⟨hx, hb, hml, ho, -⟩ := S
  obtain ⟨-, ⟨cellB, hcB, hoB, hclB⟩, hPc⟩ := hp
  intro T hT X
  obtain ⟨v, vm₁, ⟨U', l2, c2, s2⟩, hW₁, X', ⟨g', mk, t, L, e1, e2, hq, h1, hL, h2, h3⟩, st⟩ := vx_callVW X hx (C := C) (hh := hh) (bytes := bytes) (maxL := maxL) (ret := ret) ho hl hin hse hcode hy hK (by rw [hT]; exact hcB) hoB hclB hg (hsize.trans hml.symm) (argsL := As) (rest := rest) (fun sig h => hn.trans (hlen sig h)) hstack hW (by rw [hb]; exact hdg)
    (fun vm₁ hW₁ => ⟨hf.1, hf.2, hPc (T.setVm vm₁) hT hW₁⟩)
  dsimp only [Pt.U, Pt.locs, Pt.cells, Pt.slots] at X' e1 e2 h1 h2 h3 st
  subst h1; subst h2; subst h3
  exact ⟨v, (T.setVm vm₁).calling g' mk (Value.ref b :: As).toArray, t, U', L, hT, X', hL, e1, e2, hq, st⟩
section
variable {y : MethodName} {bytes cc : ByteArray} {maxL nL mc ms n index : Nat} {ret : Option FieldType} {ws : List Cond} {rm : Room} {Pc : Array Value → State → Prop} {Qc : Array Value → State → Outcome → State → Prop} {XC : String → State → State → Prop} {free : Addr → Prop} {Ts : List Cond} {own C : String} {b : Addr} {As rest : List Value} {g : JFrame}
theorem vx_runVX {hh : List (Nat × Nat × Nat × Nat)} (S : CallFix p m c cc nL s args Ts own) (hM : vx_Met l y ws rm Pc Qc XC mc ms free) (cw : vx_CVW R s args own C index y bytes maxL ret hh ws rm mc ms n) (hp : PreV s H C b Pc As)
    (hg : g.method = m) (hn : As.length = n) (hsize : g.locals.size = nL) (hstack : g.stack = As.reverse ++ .ref b :: rest) (hW : 2 * g.monitorRoom + (rest.map fun v => v.category).sum ≤ 8) (hdg : decode cc g.pc = .ok (.invokevirtual index, 3)) (hf : cells + mc ≤ R.cells ∧ slots + ms ≤ R.slots) :
    vx_Run p l e R s m args below meth c H locs cells slots mc ms g rest (Qc (Value.ref b :: As).toArray) XC free := by
  obtain ⟨⟨hrc, hrs, hfr, hlo, hws, hcw⟩, hcode, hini, hy, hlen, hl, hin, hse⟩ := cw
  have hK : vx_Back l R p e below s args y 3 8 (PreOf R mc ms Pc) (PostOf Qc mc ms free) (vx_Post XC mc ms free) := vx_backW (hh := hh) (bytes := bytes) (maxL := maxL) (ret := ret) hM hp.1 hrc hrs hfr hlo hws hcw (fun a' U hW => word_at hW (Or.inl (by first | rfl | simp [Cond.onTables, Cond.keeps, Cond.steady])) hini)
  obtain ⟨hx, hb, hml, ho, -⟩ := S
  obtain ⟨-, ⟨cellB, hcB, hoB, hclB⟩, hPc⟩ := hp
  intro T hT X
  rcases vx_callVX X hx (C := C) (hh := hh) (bytes := bytes) (maxL := maxL) (ret := ret) ho hl hin hse hcode hy hK (by rw [hT]; exact hcB) hoB hclB hg (hsize.trans hml.symm) (argsL := As) (rest := rest) (fun sig h => hn.trans (hlen sig h)) hstack hW (by rw [hb]; exact hdg)
    (fun vm₁ hW₁ => ⟨hf.1, hf.2, hPc (T.setVm vm₁) hT hW₁⟩) with ⟨v, vm₁, ⟨U', l2, c2, s2⟩, hW₁, X', ⟨g', mk, t, L, e1, e2, hq, h1, hL, h2, h3⟩, st⟩ | ⟨q, vm₁, ⟨U', l2, c2, s2⟩, hW₁, X', ⟨g', mk, t, L, E, ce, e1, e2, hq, hce, hcv, hcl, h1, hL, h2, h3⟩, st⟩
  · dsimp only [Pt.U, Pt.locs, Pt.cells, Pt.slots] at X' e1 e2 h1 h2 h3 st
    subst h1; subst h2; subst h3
    exact Or.inl ⟨v, (T.setVm vm₁).calling g' mk (Value.ref b :: As).toArray, t, U', L, hT, X', hL, e1, e2, hq, st⟩
  · dsimp only [Pt.U, Pt.locs, Pt.cells, Pt.slots] at X' e1 e2 h1 h2 h3 st hcl
    subst h1; subst h2; subst h3
    exact Or.inr ⟨q, (T.setVm vm₁).calling g' mk (Value.ref b :: As).toArray, t, U', L, E, ce, hT, X', hL, e1, e2, hq, hce, hcv, vx_cls hW₁ hcl, st⟩
theorem vx_runSX {hh : List (Nat × Nat × Nat × Nat)} (S : CallFix p m c cc nL s args Ts own) (hM : vx_Met l y ws rm Pc Qc XC mc ms free) (cw : vx_CSW R s args own index y bytes maxL ret hh ws rm mc ms n) (hp : PreS s H Pc As)
    (hg : g.method = m) (hn : As.length = n) (hsize : g.locals.size = nL) (hstack : g.stack = As.reverse ++ rest) (hW : 2 * g.monitorRoom + (rest.map fun v => v.category).sum ≤ 8) (hdg : decode cc g.pc = .ok (.invokestatic index, 3)) (hf : cells + mc ≤ R.cells ∧ slots + ms ≤ R.slots) :
    vx_Run p l e R s m args below meth c H locs cells slots mc ms g rest (Qc As.toArray) XC free := by
  obtain ⟨⟨hrc, hrs, hfr, hlo, hws, hcw⟩, hcode, hini, hy, hlen, hl, hstt⟩ := cw
  have hK : vx_Back l R p e below s args y 3 8 (PreOf R mc ms Pc) (PostOf Qc mc ms free) (vx_Post XC mc ms free) := vx_backW (hh := hh) (bytes := bytes) (maxL := maxL) (ret := ret) hM hp.1 hrc hrs hfr hlo hws hcw (fun a' U hW => word_at hW (Or.inl (by first | rfl | simp [Cond.onTables, Cond.keeps, Cond.steady])) hini)
  obtain ⟨hx, hb, hml, ho, -⟩ := S
  intro T hT X
  rcases vx_callSX X hx (hh := hh) (bytes := bytes) (maxL := maxL) (ret := ret) ho hl hstt hini hcode hy hK hg (hsize.trans hml.symm) (argsL := As) (rest := rest) (fun sig h => hn.trans (hlen sig h)) hstack hW (by rw [hb]; exact hdg)
    (fun vm₁ hW₁ => ⟨hf.1, hf.2, hp.2 (T.setVm vm₁) hT hW₁⟩) with ⟨v, vm₁, ⟨U', l2, c2, s2⟩, hW₁, X', ⟨g', mk, t, L, e1, e2, hq, h1, hL, h2, h3⟩, st⟩ | ⟨q, vm₁, ⟨U', l2, c2, s2⟩, hW₁, X', ⟨g', mk, t, L, E, ce, e1, e2, hq, hce, hcv, hcl, h1, hL, h2, h3⟩, st⟩
  · dsimp only [Pt.U, Pt.locs, Pt.cells, Pt.slots] at X' e1 e2 h1 h2 h3 st
    subst h1; subst h2; subst h3
    exact Or.inl ⟨v, (T.setVm vm₁).calling g' mk As.toArray, t, U', L, hT, X', hL, e1, e2, hq, st⟩
  · dsimp only [Pt.U, Pt.locs, Pt.cells, Pt.slots] at X' e1 e2 h1 h2 h3 st hcl
    subst h1; subst h2; subst h3
    exact Or.inr ⟨q, (T.setVm vm₁).calling g' mk As.toArray, t, U', L, E, ce, hT, X', hL, e1, e2, hq, hce, hcv, vx_cls hW₁ hcl, st⟩
end
end VXH
theorem vx_ofWH {l : Launch} {y : MethodName} {ws ws' : List Cond} {rm : Room} {Pc : Array Value → State → Prop} {Qc : Array Value → State → Outcome → State → Prop} {XC : String → State → State → Prop} {mc ms : Nat} {free : Addr → Prop} {cc : ByteArray} {maxL : Nat} {ret : Option FieldType} {hh : List (Nat × Nat × Nat × Nat)}
    (hy : plainName y.cls = true) (hw : ws = Cond.codeWith y cc maxL ret hh :: ws')
    (body : ∀ p e s m args below meth c s₁, BodyLoose p l y (headSpec ws rm) cc maxL ret e s m args below meth c s₁ → c.maxLocals = maxL → Pc args s →
      W p l e (headSpec ws rm).room s m args below meth c s.heap [] 0 0 (vx_MQ below Qc XC args s mc ms free) (entryFrame m args maxL)) : vx_Met l y ws rm Pc Qc XC mc ms free := by
  refine MetFree.of_bodyS (code := cc) (maxLocals := maxL) (ret := ret) hy ?_ ?_
  · intro args s m h hn
    obtain ⟨m9, meth, c, hn9, h1, h2, h3, h4, -, h5, h6, -⟩ := Cond.codeWith_spec (atoms_spec (ws := ws) h _ (by rw [hw]; exact List.mem_cons_self))
    cases hn.symm.trans hn9
    exact ⟨meth, c, h1, h2, h3, h4, h5, h6⟩
  · intro p e s m args below meth c s₁ B hml hP _
    have hh0 : s₁.heap = s.heap := by rw [B.state]; rfl
    obtain ⟨t, a1, o, b1, b2, b3⟩ := body p e s m args below meth c s₁ B hml hP s₁ hh0 (Stand.of_body B)
    exact ⟨t, o, a1, b1, b2, b3⟩
/-! ===== END ===== -/
end
section
def RX0 : String := "BellRoster$ChangeList"
def TX0 : u_T := fun k => match k with
  | 0 => ("BellRoster$ChangeList", "changes", "[I", true)
  | 1 => ("BellRoster$ChangeList", "dodgesOf", "[I", true)
  | 2 => ("BellRoster$ChangeList", "length", "I", false)
  | 3 => ("BellRoster$ChangeList", "courseLeads", "I", false)
  | 4 => ("BellRoster$ChangeList", "courseRows", "I", false)
  | 5 => ("BellRoster$ChangeList", "courseFalseRows", "I", false)
  | _ => ("BellRoster$ChangeList", "homeBehindLead", "I", false)
def tyX0 : Nat → FieldType := fun k => match k with
  | 0 => .array .int
  | 1 => .array .int
  | 2 => .int
  | 3 => .int
  | 4 => .int
  | 5 => .int
  | _ => .int
theorem nmX0 : ∀ a, a < 7 → ∀ b, b < 7 → a ≠ b → (TX0 a).2.1 ≠ (TX0 b).2.1 := by decide +kernel
theorem tyX0_ok : ∀ k, k < 7 → parseFieldDescriptor (TX0 k).2.2.1 = some (tyX0 k) := by decide +kernel
abbrev cX0_init : ByteArray := prog_2_method_1_code
def yX0_init : MethodName := ⟨RX0, "<init>", "()V"⟩
abbrev cX0_changeAt : ByteArray := prog_2_method_2_code
def yX0_changeAt : MethodName := ⟨RX0, "changeAt", "(I)I"⟩
abbrev cX0_append : ByteArray := prog_2_method_3_code
def yX0_append : MethodName := ⟨RX0, "append", "(I)V"⟩
abbrev cX0_measureCourse : ByteArray := prog_2_method_4_code
def yX0_measureCourse : MethodName := ⟨RX0, "measureCourse", "(LBellRoster$Touch;)V"⟩
abbrev cX0_goThroughLead : ByteArray := prog_2_method_5_code
def yX0_goThroughLead : MethodName := ⟨RX0, "goThroughLead", "(LBellRoster$Touch;)V"⟩
abbrev cX0_tellOfCourse : ByteArray := prog_2_method_6_code
def yX0_tellOfCourse : MethodName := ⟨RX0, "tellOfCourse", "(I)I"⟩
abbrev cX0_allDodges : ByteArray := prog_2_method_7_code
def yX0_allDodges : MethodName := ⟨RX0, "allDodges", "()I"⟩
def RX1 : String := "BellRoster$Touch"
def TX1 : u_T := fun k => match k with
  | 0 => ("BellRoster$Touch", "placeOf", "[I", true)
  | 1 => ("BellRoster$Touch", "moveOf", "[I", true)
  | 2 => ("BellRoster$Touch", "moveAheadOf", "[I", true)
  | 3 => ("BellRoster$Touch", "seen", "[J", true)
  | 4 => ("BellRoster$Touch", "changesMade", "I", false)
  | _ => ("BellRoster$Touch", "repeatedRows", "I", false)
def tyX1 : Nat → FieldType := fun k => match k with
  | 0 => .array .int
  | 1 => .array .int
  | 2 => .array .int
  | 3 => .array .long
  | 4 => .int
  | _ => .int
theorem nmX1 : ∀ a, a < 6 → ∀ b, b < 6 → a ≠ b → (TX1 a).2.1 ≠ (TX1 b).2.1 := by decide +kernel
theorem tyX1_ok : ∀ k, k < 6 → parseFieldDescriptor (TX1 k).2.2.1 = some (tyX1 k) := by decide +kernel
abbrev cX1_init : ByteArray := prog_3_method_1_code
def yX1_init : MethodName := ⟨RX1, "<init>", "()V"⟩
abbrev cX1_begin : ByteArray := prog_3_method_2_code
def yX1_begin : MethodName := ⟨RX1, "begin", "()V"⟩
abbrev cX1_makeChange : ByteArray := prog_3_method_3_code
def yX1_makeChange : MethodName := ⟨RX1, "makeChange", "(I)V"⟩
abbrev cX1_moveFrom : ByteArray := prog_3_method_4_code
def yX1_moveFrom : MethodName := ⟨RX1, "moveFrom", "(II)I"⟩
abbrev cX1_noteRow : ByteArray := prog_3_method_5_code
def yX1_noteRow : MethodName := ⟨RX1, "noteRow", "()V"⟩
abbrev cX1_hasDodged : ByteArray := prog_3_method_6_code
def yX1_hasDodged : MethodName := ⟨RX1, "hasDodged", "(I)Z"⟩
abbrev cX1_bellsAtHome : ByteArray := prog_3_method_7_code
def yX1_bellsAtHome : MethodName := ⟨RX1, "bellsAtHome", "()I"⟩
abbrev cX1_isRounds : ByteArray := prog_3_method_8_code
def yX1_isRounds : MethodName := ⟨RX1, "isRounds", "()Z"⟩
abbrev cX1_falseRows : ByteArray := prog_3_method_9_code
def yX1_falseRows : MethodName := ⟨RX1, "falseRows", "()I"⟩
abbrev cX1_differentRows : ByteArray := prog_3_method_10_code
def yX1_differentRows : MethodName := ⟨RX1, "differentRows", "()I"⟩
abbrev cX1_rowCode : ByteArray := prog_3_method_11_code
def yX1_rowCode : MethodName := ⟨RX1, "rowCode", "()I"⟩
abbrev cX1_bellAt : ByteArray := prog_3_method_12_code
def yX1_bellAt : MethodName := ⟨RX1, "bellAt", "(I)I"⟩
def RX2 : String := "BellRoster$Tower"
def TX2 : u_T := fun k => match k with
  | 0 => ("BellRoster$Tower", "wardOf", "[I", true)
  | 1 => ("BellRoster$Tower", "skillOf", "[I", true)
  | 2 => ("BellRoster$Tower", "votesOf", "[I", true)
  | 3 => ("BellRoster$Tower", "tiredOf", "[I", true)
  | 4 => ("BellRoster$Tower", "faultsOf", "[I", true)
  | 5 => ("BellRoster$Tower", "touchFaultsOf", "[I", true)
  | 6 => ("BellRoster$Tower", "seatOf", "[I", true)
  | 7 => ("BellRoster$Tower", "wardOfSeat", "[I", true)
  | 8 => ("BellRoster$Tower", "ringerCount", "I", false)
  | _ => ("BellRoster$Tower", "day", "I", false)
def tyX2 : Nat → FieldType := fun k => match k with
  | 0 => .array .int
  | 1 => .array .int
  | 2 => .array .int
  | 3 => .array .int
  | 4 => .array .int
  | 5 => .array .int
  | 6 => .array .int
  | 7 => .array .int
  | 8 => .int
  | _ => .int
theorem nmX2 : ∀ a, a < 10 → ∀ b, b < 10 → a ≠ b → (TX2 a).2.1 ≠ (TX2 b).2.1 := by decide +kernel
theorem tyX2_ok : ∀ k, k < 10 → parseFieldDescriptor (TX2 k).2.2.1 = some (tyX2 k) := by decide +kernel
abbrev cX2_init : ByteArray := prog_4_method_1_code
def yX2_init : MethodName := ⟨RX2, "<init>", "()V"⟩
abbrev cX2_copyFrom : ByteArray := prog_4_method_2_code
def yX2_copyFrom : MethodName := ⟨RX2, "copyFrom", "(LBellRoster$Tower;)V"⟩
abbrev cX2_enrol : ByteArray := prog_4_method_3_code
def yX2_enrol : MethodName := ⟨RX2, "enrol", "(III)I"⟩
abbrev cX2_changeVotes : ByteArray := prog_4_method_4_code
def yX2_changeVotes : MethodName := ⟨RX2, "changeVotes", "(II)V"⟩
abbrev cX2_ringsBell : ByteArray := prog_4_method_5_code
def yX2_ringsBell : MethodName := ⟨RX2, "ringsBell", "(I)Z"⟩
abbrev cX2_bandOf : ByteArray := prog_4_method_6_code
def yX2_bandOf : MethodName := ⟨RX2, "bandOf", "(I)I"⟩
abbrev cX2_bellOf : ByteArray := prog_4_method_7_code
def yX2_bellOf : MethodName := ⟨RX2, "bellOf", "(I)I"⟩
abbrev cX2_ringerAt : ByteArray := prog_4_method_8_code
def yX2_ringerAt : MethodName := ⟨RX2, "ringerAt", "(I)I"⟩
abbrev cX2_rankOf : ByteArray := prog_4_method_9_code
def yX2_rankOf : MethodName := ⟨RX2, "rankOf", "(I)I"⟩
abbrev cX2_tellOfRinger : ByteArray := prog_4_method_10_code
def yX2_tellOfRinger : MethodName := ⟨RX2, "tellOfRinger", "(II)I"⟩
abbrev cX2_electBand : ByteArray := prog_4_method_11_code
def yX2_electBand : MethodName := ⟨RX2, "electBand", "(I)V"⟩
abbrev cX2_electTo : ByteArray := prog_4_method_12_code
def yX2_electTo : MethodName := ⟨RX2, "electTo", "(I)V"⟩
abbrev cX2_ringersIn : ByteArray := prog_4_method_13_code
def yX2_ringersIn : MethodName := ⟨RX2, "ringersIn", "(I)I"⟩
abbrev cX2_ringersAtBells : ByteArray := prog_4_method_14_code
def yX2_ringersAtBells : MethodName := ⟨RX2, "ringersAtBells", "()I"⟩
abbrev cX2_fullBands : ByteArray := prog_4_method_15_code
def yX2_fullBands : MethodName := ⟨RX2, "fullBands", "()I"⟩
abbrev cX2_skillAtBells : ByteArray := prog_4_method_16_code
def yX2_skillAtBells : MethodName := ⟨RX2, "skillAtBells", "()I"⟩
abbrev cX2_allFaults : ByteArray := prog_4_method_17_code
def yX2_allFaults : MethodName := ⟨RX2, "allFaults", "()I"⟩
abbrev cX2_allVotes : ByteArray := prog_4_method_18_code
def yX2_allVotes : MethodName := ⟨RX2, "allVotes", "()I"⟩
abbrev cX2_isFresh : ByteArray := prog_4_method_19_code
def yX2_isFresh : MethodName := ⟨RX2, "isFresh", "(I)Z"⟩
abbrev cX2_ringTouch : ByteArray := prog_4_method_20_code
def yX2_ringTouch : MethodName := ⟨RX2, "ringTouch", "(ILBellRoster$ChangeList;ILBellRoster$Touch;)I"⟩
abbrev cX2_tireDodgers : ByteArray := prog_4_method_21_code
def yX2_tireDodgers : MethodName := ⟨RX2, "tireDodgers", "(ILBellRoster$Touch;)V"⟩
abbrev cX2_tire : ByteArray := prog_4_method_22_code
def yX2_tire : MethodName := ⟨RX2, "tire", "(I)V"⟩
abbrev cX2_passDays : ByteArray := prog_4_method_23_code
def yX2_passDays : MethodName := ⟨RX2, "passDays", "(I)V"⟩
abbrev cX2_passDay : ByteArray := prog_4_method_24_code
def yX2_passDay : MethodName := ⟨RX2, "passDay", "()V"⟩
abbrev cX2_seatedUnlike : ByteArray := prog_4_method_25_code
def yX2_seatedUnlike : MethodName := ⟨RX2, "seatedUnlike", "(LBellRoster$Tower;)I"⟩
def RX3 : String := "BellRoster"
def TX3 : u_T := fun k => match k with
  | 0 => ("BellRoster", "tower", "LBellRoster$Tower;", true)
  | 1 => ("BellRoster", "trial", "LBellRoster$Tower;", true)
  | 2 => ("BellRoster", "touch", "LBellRoster$Touch;", true)
  | 3 => ("BellRoster", "lists", "[LBellRoster$ChangeList;", true)
  | 4 => ("BellRoster", "listCount", "I", false)
  | 5 => ("BellRoster", "touchesRung", "I", false)
  | _ => ("BellRoster", "falseRowsRung", "I", false)
def tyX3 : Nat → FieldType := fun k => match k with
  | 0 => .object "BellRoster$Tower"
  | 1 => .object "BellRoster$Tower"
  | 2 => .object "BellRoster$Touch"
  | 3 => .array (.object "BellRoster$ChangeList")
  | 4 => .int
  | 5 => .int
  | _ => .int
theorem nmX3 : ∀ a, a < 7 → ∀ b, b < 7 → a ≠ b → (TX3 a).2.1 ≠ (TX3 b).2.1 := by decide +kernel
theorem tyX3_ok : ∀ k, k < 7 → parseFieldDescriptor (TX3 k).2.2.1 = some (tyX3 k) := by decide +kernel
abbrev cX3_init : ByteArray := prog_1_method_1_code
def yX3_init : MethodName := ⟨RX3, "<init>", "()V"⟩
abbrev cX3_ringer : ByteArray := prog_1_method_2_code
def yX3_ringer : MethodName := ⟨RX3, "ringer", "(III)I"⟩
abbrev cX3_vote : ByteArray := prog_1_method_3_code
def yX3_vote : MethodName := ⟨RX3, "vote", "(II)I"⟩
abbrev cX3_seat : ByteArray := prog_1_method_4_code
def yX3_seat : MethodName := ⟨RX3, "seat", "(III)I"⟩
abbrev cX3_elect : ByteArray := prog_1_method_5_code
def yX3_elect : MethodName := ⟨RX3, "elect", "(I)I"⟩
abbrev cX3_put : ByteArray := prog_1_method_6_code
def yX3_put : MethodName := ⟨RX3, "put", "(III)I"⟩
abbrev cX3_leave : ByteArray := prog_1_method_7_code
def yX3_leave : MethodName := ⟨RX3, "leave", "(I)I"⟩
abbrev cX3_told : ByteArray := prog_1_method_8_code
def yX3_told : MethodName := ⟨RX3, "told", "(II)I"⟩
abbrev cX3_bell : ByteArray := prog_1_method_9_code
def yX3_bell : MethodName := ⟨RX3, "bell", "(III)I"⟩
abbrev cX3_method : ByteArray := prog_1_method_10_code
def yX3_method : MethodName := ⟨RX3, "method", "()I"⟩
abbrev cX3_add : ByteArray := prog_1_method_11_code
def yX3_add : MethodName := ⟨RX3, "add", "(II)I"⟩
abbrev cX3_about : ByteArray := prog_1_method_12_code
def yX3_about : MethodName := ⟨RX3, "about", "(II)I"⟩
abbrev cX3_row : ByteArray := prog_1_method_13_code
def yX3_row : MethodName := ⟨RX3, "row", "(II)I"⟩
abbrev cX3_dodges : ByteArray := prog_1_method_14_code
def yX3_dodges : MethodName := ⟨RX3, "dodges", "(II)I"⟩
abbrev cX3_ring : ByteArray := prog_1_method_15_code
def yX3_ring : MethodName := ⟨RX3, "ring", "(III)I"⟩
abbrev cX3_would : ByteArray := prog_1_method_16_code
def yX3_would : MethodName := ⟨RX3, "would", "(III)I"⟩
abbrev cX3_advise : ByteArray := prog_1_method_17_code
def yX3_advise : MethodName := ⟨RX3, "advise", "(I)I"⟩
abbrev cX3_count : ByteArray := prog_1_method_18_code
def yX3_count : MethodName := ⟨RX3, "count", "(I)I"⟩
abbrev cX3_pass : ByteArray := prog_1_method_19_code
def yX3_pass : MethodName := ⟨RX3, "pass", "(I)I"⟩
abbrev cX3_foresee : ByteArray := prog_1_method_20_code
def yX3_foresee : MethodName := ⟨RX3, "foresee", "(III)I"⟩
abbrev cX3_mean : ByteArray := prog_1_method_21_code
def yX3_mean : MethodName := ⟨RX3, "mean", "()D"⟩
abbrev cX3_digest : ByteArray := prog_1_method_22_code
def yX3_digest : MethodName := ⟨RX3, "digest", "()J"⟩
abbrev cX3_digestRingers : ByteArray := prog_1_method_23_code
def yX3_digestRingers : MethodName := ⟨RX3, "digestRingers", "(J)J"⟩
abbrev cX3_digestBands : ByteArray := prog_1_method_24_code
def yX3_digestBands : MethodName := ⟨RX3, "digestBands", "(J)J"⟩
abbrev cX3_digestMethods : ByteArray := prog_1_method_25_code
def yX3_digestMethods : MethodName := ⟨RX3, "digestMethods", "(J)J"⟩
abbrev cX3_canBeRung : ByteArray := prog_1_method_26_code
def yX3_canBeRung : MethodName := ⟨RX3, "canBeRung", "(LBellRoster$ChangeList;I)Z"⟩
abbrev cX3_votesBrought : ByteArray := prog_1_method_27_code
def yX3_votesBrought : MethodName := ⟨RX3, "votesBrought", "(ILBellRoster$ChangeList;I)I"⟩
abbrev cX3_listNumbered : ByteArray := prog_1_method_28_code
def yX3_listNumbered : MethodName := ⟨RX3, "listNumbered", "(I)LBellRoster$ChangeList;"⟩
abbrev cX3_seatNumber : ByteArray := prog_1_method_29_code
def yX3_seatNumber : MethodName := ⟨RX3, "seatNumber", "(II)I"⟩
abbrev cX3_requireSeat : ByteArray := prog_1_method_30_code
def yX3_requireSeat : MethodName := ⟨RX3, "requireSeat", "(II)V"⟩
abbrev cX3_requireIndex : ByteArray := prog_1_method_31_code
def yX3_requireIndex : MethodName := ⟨RX3, "requireIndex", "(II)V"⟩
abbrev cX3_requireWithin : ByteArray := prog_1_method_32_code
def yX3_requireWithin : MethodName := ⟨RX3, "requireWithin", "(III)V"⟩
def RX4 : String := "BellRosterModel$State"
def TX4 : u_T := fun k => match k with
  | 0 => ("BellRosterModel$State", "day", "I", false)
  | 1 => ("BellRosterModel$State", "votes", "[I", true)
  | 2 => ("BellRosterModel$State", "tired", "[I", true)
  | 3 => ("BellRosterModel$State", "faults", "[I", true)
  | 4 => ("BellRosterModel$State", "rings", "[I", true)
  | _ => ("BellRosterModel$State", "this$0", "LBellRosterModel;", true)
def tyX4 : Nat → FieldType := fun k => match k with
  | 0 => .int
  | 1 => .array .int
  | 2 => .array .int
  | 3 => .array .int
  | 4 => .array .int
  | _ => .object "BellRosterModel"
theorem nmX4 : ∀ a, a < 6 → ∀ b, b < 6 → a ≠ b → (TX4 a).2.1 ≠ (TX4 b).2.1 := by decide +kernel
theorem tyX4_ok : ∀ k, k < 6 → parseFieldDescriptor (TX4 k).2.2.1 = some (tyX4 k) := by decide +kernel
abbrev cX4_init : ByteArray := prog_7_method_1_code
def yX4_init : MethodName := ⟨RX4, "<init>", "(LBellRosterModel;)V"⟩
abbrev cX4_copy : ByteArray := prog_7_method_2_code
def yX4_copy : MethodName := ⟨RX4, "copy", "([I[I)V"⟩
abbrev cX4_become : ByteArray := prog_7_method_3_code
def yX4_become : MethodName := ⟨RX4, "become", "(LBellRosterModel$State;)LBellRosterModel$State;"⟩
abbrev cX4_ringerOf : ByteArray := prog_7_method_4_code
def yX4_ringerOf : MethodName := ⟨RX4, "ringerOf", "(I)I"⟩
abbrev cX4_elect : ByteArray := prog_7_method_5_code
def yX4_elect : MethodName := ⟨RX4, "elect", "(I)LBellRosterModel$State;"⟩
abbrev cX4_manned : ByteArray := prog_7_method_6_code
def yX4_manned : MethodName := ⟨RX4, "manned", "(I)I"⟩
abbrev cX4_canRing : ByteArray := prog_7_method_7_code
def yX4_canRing : MethodName := ⟨RX4, "canRing", "(II)Z"⟩
abbrev cX4_ring : ByteArray := prog_7_method_8_code
def yX4_ring : MethodName := ⟨RX4, "ring", "(III)I"⟩
abbrev cX4_pass : ByteArray := prog_7_method_9_code
def yX4_pass : MethodName := ⟨RX4, "pass", "()V"⟩
abbrev cX4_pass_ : ByteArray := prog_7_method_10_code
def yX4_pass_ : MethodName := ⟨RX4, "pass", "(I)V"⟩
abbrev cX4_allVotes : ByteArray := prog_7_method_11_code
def yX4_allVotes : MethodName := ⟨RX4, "allVotes", "()I"⟩
def RX5 : String := "BellRosterModel"
def TX5 : u_T := fun k => match k with
  | 0 => ("BellRosterModel", "thrown", "I", false)
  | 1 => ("BellRosterModel", "ringers", "I", false)
  | 2 => ("BellRosterModel", "ward", "[I", true)
  | 3 => ("BellRosterModel", "skill", "[I", true)
  | 4 => ("BellRosterModel", "elects", "[I", true)
  | 5 => ("BellRosterModel", "methods", "I", false)
  | 6 => ("BellRosterModel", "many", "[I", true)
  | 7 => ("BellRosterModel", "changes", "[I", true)
  | 8 => ("BellRosterModel", "touches", "I", false)
  | 9 => ("BellRosterModel", "falseRows", "I", false)
  | 10 => ("BellRosterModel", "codes", "[I", true)
  | 11 => ("BellRosterModel", "dodging", "[I", true)
  | 12 => ("BellRosterModel", "length", "I", false)
  | 13 => ("BellRosterModel", "row", "[I", true)
  | 14 => ("BellRosterModel", "goes", "[I", true)
  | 15 => ("BellRosterModel", "went", "[I", true)
  | 16 => ("BellRosterModel", "s", "LBellRosterModel$State;", true)
  | _ => ("BellRosterModel", "ahead", "LBellRosterModel$State;", true)
def tyX5 : Nat → FieldType := fun k => match k with
  | 0 => .int
  | 1 => .int
  | 2 => .array .int
  | 3 => .array .int
  | 4 => .array .int
  | 5 => .int
  | 6 => .array .int
  | 7 => .array .int
  | 8 => .int
  | 9 => .int
  | 10 => .array .int
  | 11 => .array .int
  | 12 => .int
  | 13 => .array .int
  | 14 => .array .int
  | 15 => .array .int
  | 16 => .object "BellRosterModel$State"
  | _ => .object "BellRosterModel$State"
theorem nmX5 : ∀ a, a < 18 → ∀ b, b < 18 → a ≠ b → (TX5 a).2.1 ≠ (TX5 b).2.1 := by decide +kernel
theorem tyX5_ok : ∀ k, k < 18 → parseFieldDescriptor (TX5 k).2.2.1 = some (tyX5 k) := by decide +kernel
abbrev cX5_init : ByteArray := prog_6_method_1_code
def yX5_init : MethodName := ⟨RX5, "<init>", "()V"⟩
abbrev cX5_thrown : ByteArray := prog_6_method_2_code
def yX5_thrown : MethodName := ⟨RX5, "thrown", "()I"⟩
abbrev cX5_no : ByteArray := prog_6_method_3_code
def yX5_no : MethodName := ⟨RX5, "no", "(I)I"⟩
abbrev cX5_isIn : ByteArray := prog_6_method_4_code
def yX5_isIn : MethodName := ⟨RX5, "isIn", "(III)Z"⟩
abbrev cX5_isRinger : ByteArray := prog_6_method_5_code
def yX5_isRinger : MethodName := ⟨RX5, "isRinger", "(I)Z"⟩
abbrev cX5_isSeat : ByteArray := prog_6_method_6_code
def yX5_isSeat : MethodName := ⟨RX5, "isSeat", "(II)Z"⟩
abbrev cX5_isMethod : ByteArray := prog_6_method_7_code
def yX5_isMethod : MethodName := ⟨RX5, "isMethod", "(I)Z"⟩
abbrev cX5_code : ByteArray := prog_6_method_8_code
def yX5_code : MethodName := ⟨RX5, "code", "()I"⟩
abbrev cX5_walkChanges : ByteArray := prog_6_method_9_code
def yX5_walkChanges : MethodName := ⟨RX5, "walkChanges", "(II)V"⟩
abbrev cX5_walk : ByteArray := prog_6_method_10_code
def yX5_walk : MethodName := ⟨RX5, "walk", "(II)V"⟩
abbrev cX5_untrue : ByteArray := prog_6_method_11_code
def yX5_untrue : MethodName := ⟨RX5, "untrue", "()I"⟩
abbrev cX5_isNew : ByteArray := prog_6_method_12_code
def yX5_isNew : MethodName := ⟨RX5, "isNew", "(I)Z"⟩
abbrev cX5_course : ByteArray := prog_6_method_13_code
def yX5_course : MethodName := ⟨RX5, "course", "(I)I"⟩
abbrev cX5_dodgesOf : ByteArray := prog_6_method_14_code
def yX5_dodgesOf : MethodName := ⟨RX5, "dodgesOf", "(I)I"⟩
abbrev cX5_ringer : ByteArray := prog_6_method_15_code
def yX5_ringer : MethodName := ⟨RX5, "ringer", "(III)I"⟩
abbrev cX5_vote : ByteArray := prog_6_method_16_code
def yX5_vote : MethodName := ⟨RX5, "vote", "(II)I"⟩
abbrev cX5_seat : ByteArray := prog_6_method_17_code
def yX5_seat : MethodName := ⟨RX5, "seat", "(III)I"⟩
abbrev cX5_elect : ByteArray := prog_6_method_18_code
def yX5_elect : MethodName := ⟨RX5, "elect", "(I)I"⟩
abbrev cX5_put : ByteArray := prog_6_method_19_code
def yX5_put : MethodName := ⟨RX5, "put", "(III)I"⟩
abbrev cX5_leave : ByteArray := prog_6_method_20_code
def yX5_leave : MethodName := ⟨RX5, "leave", "(I)I"⟩
abbrev cX5_ringerTold : ByteArray := prog_6_method_21_code
def yX5_ringerTold : MethodName := ⟨RX5, "ringerTold", "(LBellRosterModel$State;II)I"⟩
abbrev cX5_told : ByteArray := prog_6_method_22_code
def yX5_told : MethodName := ⟨RX5, "told", "(II)I"⟩
abbrev cX5_bellTold : ByteArray := prog_6_method_23_code
def yX5_bellTold : MethodName := ⟨RX5, "bellTold", "(III)I"⟩
abbrev cX5_bell : ByteArray := prog_6_method_24_code
def yX5_bell : MethodName := ⟨RX5, "bell", "(III)I"⟩
abbrev cX5_method : ByteArray := prog_6_method_25_code
def yX5_method : MethodName := ⟨RX5, "method", "()I"⟩
abbrev cX5_add : ByteArray := prog_6_method_26_code
def yX5_add : MethodName := ⟨RX5, "add", "(II)I"⟩
abbrev cX5_methodTold : ByteArray := prog_6_method_27_code
def yX5_methodTold : MethodName := ⟨RX5, "methodTold", "(II)I"⟩
abbrev cX5_about : ByteArray := prog_6_method_28_code
def yX5_about : MethodName := ⟨RX5, "about", "(II)I"⟩
abbrev cX5_row : ByteArray := prog_6_method_29_code
def yX5_row : MethodName := ⟨RX5, "row", "(II)I"⟩
abbrev cX5_dodges : ByteArray := prog_6_method_30_code
def yX5_dodges : MethodName := ⟨RX5, "dodges", "(II)I"⟩
abbrev cX5_ring : ByteArray := prog_6_method_31_code
def yX5_ring : MethodName := ⟨RX5, "ring", "(III)I"⟩
abbrev cX5_wouldBring : ByteArray := prog_6_method_32_code
def yX5_wouldBring : MethodName := ⟨RX5, "wouldBring", "(III)I"⟩
abbrev cX5_would : ByteArray := prog_6_method_33_code
def yX5_would : MethodName := ⟨RX5, "would", "(III)I"⟩
abbrev cX5_advise : ByteArray := prog_6_method_34_code
def yX5_advise : MethodName := ⟨RX5, "advise", "(I)I"⟩
abbrev cX5_counted : ByteArray := prog_6_method_35_code
def yX5_counted : MethodName := ⟨RX5, "counted", "(I)I"⟩
abbrev cX5_count : ByteArray := prog_6_method_36_code
def yX5_count : MethodName := ⟨RX5, "count", "(I)I"⟩
abbrev cX5_pass : ByteArray := prog_6_method_37_code
def yX5_pass : MethodName := ⟨RX5, "pass", "(I)I"⟩
abbrev cX5_foresee : ByteArray := prog_6_method_38_code
def yX5_foresee : MethodName := ⟨RX5, "foresee", "(III)I"⟩
abbrev cX5_mean : ByteArray := prog_6_method_39_code
def yX5_mean : MethodName := ⟨RX5, "mean", "()D"⟩
abbrev cX5_digest : ByteArray := prog_6_method_40_code
def yX5_digest : MethodName := ⟨RX5, "digest", "()J"⟩
def RJx145de : String := "java/io/Serializable"
def RJx8e188 : String := "java/lang/Cloneable"
def RJ9 : String := "java/lang/Math"
abbrev cJ9_max_7cf53 : ByteArray := prog_13_method_65_code
def yJ9_max_7cf53 : MethodName := ⟨RJ9, "max", "(II)I"⟩
abbrev cJ9_min_7cf53 : ByteArray := prog_13_method_69_code
def yJ9_min_7cf53 : MethodName := ⟨RJ9, "min", "(II)I"⟩
def RJ0 : String := "java/lang/String"
def RJ10 : String := "java/lang/System"
def RJ7 : String := "java/util/Arrays"
abbrev cJ7_fill_d0a16 : ByteArray := prog_18_method_101_code
def yJ7_fill_d0a16 : MethodName := ⟨RJ7, "fill", "([JJ)V"⟩
abbrev cJ7_fill_53178 : ByteArray := prog_18_method_103_code
def yJ7_fill_53178 : MethodName := ⟨RJ7, "fill", "([II)V"⟩
def RL : String := "BellRosterLaw"
abbrev cL_ringer : ByteArray := method_3_code
def yL_ringer : MethodName := ⟨RL, "ringer", "(LBellRoster;III[J)I"⟩
abbrev cL_vote : ByteArray := method_4_code
def yL_vote : MethodName := ⟨RL, "vote", "(LBellRoster;II[J)I"⟩
abbrev cL_seat : ByteArray := method_5_code
def yL_seat : MethodName := ⟨RL, "seat", "(LBellRoster;III[J)I"⟩
abbrev cL_elect : ByteArray := method_6_code
def yL_elect : MethodName := ⟨RL, "elect", "(LBellRoster;I[J)I"⟩
abbrev cL_put : ByteArray := method_7_code
def yL_put : MethodName := ⟨RL, "put", "(LBellRoster;III[J)I"⟩
abbrev cL_leave : ByteArray := method_8_code
def yL_leave : MethodName := ⟨RL, "leave", "(LBellRoster;I[J)I"⟩
abbrev cL_told : ByteArray := method_9_code
def yL_told : MethodName := ⟨RL, "told", "(LBellRoster;II[J)I"⟩
abbrev cL_bell : ByteArray := method_10_code
def yL_bell : MethodName := ⟨RL, "bell", "(LBellRoster;III[J)I"⟩
abbrev cL_method : ByteArray := method_11_code
def yL_method : MethodName := ⟨RL, "method", "(LBellRoster;[J)I"⟩
abbrev cL_add : ByteArray := method_12_code
def yL_add : MethodName := ⟨RL, "add", "(LBellRoster;II[J)I"⟩
abbrev cL_about : ByteArray := method_13_code
def yL_about : MethodName := ⟨RL, "about", "(LBellRoster;II[J)I"⟩
abbrev cL_row : ByteArray := method_14_code
def yL_row : MethodName := ⟨RL, "row", "(LBellRoster;II[J)I"⟩
abbrev cL_dodges : ByteArray := method_15_code
def yL_dodges : MethodName := ⟨RL, "dodges", "(LBellRoster;II[J)I"⟩
abbrev cL_ring : ByteArray := method_16_code
def yL_ring : MethodName := ⟨RL, "ring", "(LBellRoster;III[J)I"⟩
abbrev cL_would : ByteArray := method_17_code
def yL_would : MethodName := ⟨RL, "would", "(LBellRoster;III[J)I"⟩
abbrev cL_advise : ByteArray := method_18_code
def yL_advise : MethodName := ⟨RL, "advise", "(LBellRoster;I[J)I"⟩
abbrev cL_count : ByteArray := method_19_code
def yL_count : MethodName := ⟨RL, "count", "(LBellRoster;I[J)I"⟩
abbrev cL_pass : ByteArray := method_20_code
def yL_pass : MethodName := ⟨RL, "pass", "(LBellRoster;I[J)I"⟩
abbrev cL_foresee : ByteArray := method_21_code
def yL_foresee : MethodName := ⟨RL, "foresee", "(LBellRoster;III[J)I"⟩
abbrev cL_law : ByteArray := code
def yL_law : MethodName := ⟨RL, "law", "([I)Z"⟩
abbrev vwCl : List vw_C := [(RX0, TX0, 7), (RX1, TX1, 6), (RX2, TX2, 10), (RX3, TX3, 7), (RX4, TX4, 6), (RX5, TX5, 18)]
end
section
theorem dX0_init_0 : decode cX0_init 0 = .ok (.aload_n 0, 1) := by decide +kernel
theorem dX0_init_1 : decode cX0_init 1 = .ok (.invokespecial 3, 3) := by decide +kernel
theorem dX0_init_4 : decode cX0_init 4 = .ok (.aload_n 0, 1) := by decide +kernel
theorem dX0_init_5 : decode cX0_init 5 = .ok (.bipush 12, 2) := by decide +kernel
theorem dX0_init_7 : decode cX0_init 7 = .ok (.newarray .int, 2) := by decide +kernel
theorem dX0_init_9 : decode cX0_init 9 = .ok (.putfield 9, 3) := by decide +kernel
theorem dX0_init_12 : decode cX0_init 12 = .ok (.aload_n 0, 1) := by decide +kernel
theorem dX0_init_13 : decode cX0_init 13 = .ok (.bipush 6, 2) := by decide +kernel
theorem dX0_init_15 : decode cX0_init 15 = .ok (.newarray .int, 2) := by decide +kernel
theorem dX0_init_17 : decode cX0_init 17 = .ok (.putfield 15, 3) := by decide +kernel
theorem dX0_init_20 : decode cX0_init 20 = .ok (.aload_n 0, 1) := by decide +kernel
theorem dX0_init_21 : decode cX0_init 21 = .ok (.iconst 1, 1) := by decide +kernel
theorem dX0_init_22 : decode cX0_init 22 = .ok (.putfield 18, 3) := by decide +kernel
theorem dX0_init_25 : decode cX0_init 25 = .ok (.aload_n 0, 1) := by decide +kernel
theorem dX0_init_26 : decode cX0_init 26 = .ok (.iconst 1, 1) := by decide +kernel
theorem dX0_init_27 : decode cX0_init 27 = .ok (.putfield 22, 3) := by decide +kernel
theorem dX0_init_30 : decode cX0_init 30 = .ok (.aload_n 0, 1) := by decide +kernel
theorem dX0_init_31 : decode cX0_init 31 = .ok (.bipush 6, 2) := by decide +kernel
theorem dX0_init_33 : decode cX0_init 33 = .ok (.putfield 25, 3) := by decide +kernel
theorem dX0_init_36 : decode cX0_init 36 = .ok (.return_, 1) := by decide +kernel
theorem dX0_changeAt_0 : decode cX0_changeAt 0 = .ok (.iload_n 1, 1) := by decide +kernel
theorem dX0_changeAt_1 : decode cX0_changeAt 1 = .ok (.ifCond .lt 20, 3) := by decide +kernel
theorem dX0_changeAt_4 : decode cX0_changeAt 4 = .ok (.iload_n 1, 1) := by decide +kernel
theorem dX0_changeAt_5 : decode cX0_changeAt 5 = .ok (.aload_n 0, 1) := by decide +kernel
theorem dX0_changeAt_6 : decode cX0_changeAt 6 = .ok (.getfield 28, 3) := by decide +kernel
theorem dX0_changeAt_9 : decode cX0_changeAt 9 = .ok (.if_icmp .ge 12, 3) := by decide +kernel
theorem dX0_changeAt_12 : decode cX0_changeAt 12 = .ok (.aload_n 0, 1) := by decide +kernel
theorem dX0_changeAt_13 : decode cX0_changeAt 13 = .ok (.getfield 9, 3) := by decide +kernel
theorem dX0_changeAt_16 : decode cX0_changeAt 16 = .ok (.iload_n 1, 1) := by decide +kernel
theorem dX0_changeAt_17 : decode cX0_changeAt 17 = .ok (.iaload, 1) := by decide +kernel
theorem dX0_changeAt_18 : decode cX0_changeAt 18 = .ok (.goto 4, 3) := by decide +kernel
theorem dX0_changeAt_21 : decode cX0_changeAt 21 = .ok (.iconst 0, 1) := by decide +kernel
theorem dX0_changeAt_22 : decode cX0_changeAt 22 = .ok (.ireturn, 1) := by decide +kernel
theorem dX0_append_0 : decode cX0_append 0 = .ok (.aload_n 0, 1) := by decide +kernel
theorem dX0_append_1 : decode cX0_append 1 = .ok (.getfield 28, 3) := by decide +kernel
theorem dX0_append_4 : decode cX0_append 4 = .ok (.bipush 12, 2) := by decide +kernel
theorem dX0_append_6 : decode cX0_append 6 = .ok (.if_icmp .ge 23, 3) := by decide +kernel
theorem dX0_append_9 : decode cX0_append 9 = .ok (.aload_n 0, 1) := by decide +kernel
theorem dX0_append_10 : decode cX0_append 10 = .ok (.getfield 9, 3) := by decide +kernel
theorem dX0_append_13 : decode cX0_append 13 = .ok (.aload_n 0, 1) := by decide +kernel
theorem dX0_append_14 : decode cX0_append 14 = .ok (.getfield 28, 3) := by decide +kernel
theorem dX0_append_17 : decode cX0_append 17 = .ok (.iload_n 1, 1) := by decide +kernel
theorem dX0_append_18 : decode cX0_append 18 = .ok (.iastore, 1) := by decide +kernel
theorem dX0_append_19 : decode cX0_append 19 = .ok (.aload_n 0, 1) := by decide +kernel
theorem dX0_append_20 : decode cX0_append 20 = .ok (.dup, 1) := by decide +kernel
theorem dX0_append_21 : decode cX0_append 21 = .ok (.getfield 28, 3) := by decide +kernel
theorem dX0_append_24 : decode cX0_append 24 = .ok (.iconst 1, 1) := by decide +kernel
theorem dX0_append_25 : decode cX0_append 25 = .ok (.iadd, 1) := by decide +kernel
theorem dX0_append_26 : decode cX0_append 26 = .ok (.putfield 28, 3) := by decide +kernel
theorem dX0_append_29 : decode cX0_append 29 = .ok (.return_, 1) := by decide +kernel
theorem dX0_measureCourse_0 : decode cX0_measureCourse 0 = .ok (.aload_n 0, 1) := by decide +kernel
theorem dX0_measureCourse_1 : decode cX0_measureCourse 1 = .ok (.getfield 15, 3) := by decide +kernel
theorem dX0_measureCourse_4 : decode cX0_measureCourse 4 = .ok (.iconst 0, 1) := by decide +kernel
theorem dX0_measureCourse_5 : decode cX0_measureCourse 5 = .ok (.invokestatic 31, 3) := by decide +kernel
theorem dX0_measureCourse_8 : decode cX0_measureCourse 8 = .ok (.aload_n 1, 1) := by decide +kernel
theorem dX0_measureCourse_9 : decode cX0_measureCourse 9 = .ok (.invokevirtual 37, 3) := by decide +kernel
theorem dX0_measureCourse_12 : decode cX0_measureCourse 12 = .ok (.aload_n 0, 1) := by decide +kernel
theorem dX0_measureCourse_13 : decode cX0_measureCourse 13 = .ok (.aload_n 1, 1) := by decide +kernel
theorem dX0_measureCourse_14 : decode cX0_measureCourse 14 = .ok (.invokevirtual 42, 3) := by decide +kernel
theorem dX0_measureCourse_17 : decode cX0_measureCourse 17 = .ok (.aload_n 0, 1) := by decide +kernel
theorem dX0_measureCourse_18 : decode cX0_measureCourse 18 = .ok (.aload_n 1, 1) := by decide +kernel
theorem dX0_measureCourse_19 : decode cX0_measureCourse 19 = .ok (.invokevirtual 46, 3) := by decide +kernel
theorem dX0_measureCourse_22 : decode cX0_measureCourse 22 = .ok (.putfield 25, 3) := by decide +kernel
theorem dX0_measureCourse_25 : decode cX0_measureCourse 25 = .ok (.iconst 1, 1) := by decide +kernel
theorem dX0_measureCourse_26 : decode cX0_measureCourse 26 = .ok (.istore_n 2, 1) := by decide +kernel
theorem dX0_measureCourse_27 : decode cX0_measureCourse 27 = .ok (.iload_n 2, 1) := by decide +kernel
theorem dX0_measureCourse_28 : decode cX0_measureCourse 28 = .ok (.bipush 6, 2) := by decide +kernel
theorem dX0_measureCourse_30 : decode cX0_measureCourse 30 = .ok (.if_icmp .ge 21, 3) := by decide +kernel
theorem dX0_measureCourse_33 : decode cX0_measureCourse 33 = .ok (.aload_n 1, 1) := by decide +kernel
theorem dX0_measureCourse_34 : decode cX0_measureCourse 34 = .ok (.invokevirtual 50, 3) := by decide +kernel
theorem dX0_measureCourse_37 : decode cX0_measureCourse 37 = .ok (.ifCond .ne 14, 3) := by decide +kernel
theorem dX0_measureCourse_40 : decode cX0_measureCourse 40 = .ok (.aload_n 0, 1) := by decide +kernel
theorem dX0_measureCourse_41 : decode cX0_measureCourse 41 = .ok (.aload_n 1, 1) := by decide +kernel
theorem dX0_measureCourse_42 : decode cX0_measureCourse 42 = .ok (.invokevirtual 42, 3) := by decide +kernel
theorem dX0_measureCourse_45 : decode cX0_measureCourse 45 = .ok (.iinc 2 1, 3) := by decide +kernel
theorem dX0_measureCourse_48 : decode cX0_measureCourse 48 = .ok (.goto (-21), 3) := by decide +kernel
theorem dX0_measureCourse_51 : decode cX0_measureCourse 51 = .ok (.aload_n 0, 1) := by decide +kernel
theorem dX0_measureCourse_52 : decode cX0_measureCourse 52 = .ok (.iload_n 2, 1) := by decide +kernel
theorem dX0_measureCourse_53 : decode cX0_measureCourse 53 = .ok (.putfield 18, 3) := by decide +kernel
theorem dX0_measureCourse_56 : decode cX0_measureCourse 56 = .ok (.aload_n 0, 1) := by decide +kernel
theorem dX0_measureCourse_57 : decode cX0_measureCourse 57 = .ok (.aload_n 1, 1) := by decide +kernel
theorem dX0_measureCourse_58 : decode cX0_measureCourse 58 = .ok (.invokevirtual 54, 3) := by decide +kernel
theorem dX0_measureCourse_61 : decode cX0_measureCourse 61 = .ok (.putfield 22, 3) := by decide +kernel
theorem dX0_measureCourse_64 : decode cX0_measureCourse 64 = .ok (.aload_n 0, 1) := by decide +kernel
theorem dX0_measureCourse_65 : decode cX0_measureCourse 65 = .ok (.aload_n 1, 1) := by decide +kernel
theorem dX0_measureCourse_66 : decode cX0_measureCourse 66 = .ok (.invokevirtual 57, 3) := by decide +kernel
theorem dX0_measureCourse_69 : decode cX0_measureCourse 69 = .ok (.putfield 60, 3) := by decide +kernel
theorem dX0_measureCourse_72 : decode cX0_measureCourse 72 = .ok (.return_, 1) := by decide +kernel
theorem dX0_goThroughLead_0 : decode cX0_goThroughLead 0 = .ok (.iconst 0, 1) := by decide +kernel
theorem dX0_goThroughLead_1 : decode cX0_goThroughLead 1 = .ok (.istore_n 2, 1) := by decide +kernel
theorem dX0_goThroughLead_2 : decode cX0_goThroughLead 2 = .ok (.iload_n 2, 1) := by decide +kernel
theorem dX0_goThroughLead_3 : decode cX0_goThroughLead 3 = .ok (.aload_n 0, 1) := by decide +kernel
theorem dX0_goThroughLead_4 : decode cX0_goThroughLead 4 = .ok (.getfield 28, 3) := by decide +kernel
theorem dX0_goThroughLead_7 : decode cX0_goThroughLead 7 = .ok (.if_icmp .ge 51, 3) := by decide +kernel
theorem dX0_goThroughLead_10 : decode cX0_goThroughLead 10 = .ok (.aload_n 1, 1) := by decide +kernel
theorem dX0_goThroughLead_11 : decode cX0_goThroughLead 11 = .ok (.aload_n 0, 1) := by decide +kernel
theorem dX0_goThroughLead_12 : decode cX0_goThroughLead 12 = .ok (.getfield 9, 3) := by decide +kernel
theorem dX0_goThroughLead_15 : decode cX0_goThroughLead 15 = .ok (.iload_n 2, 1) := by decide +kernel
theorem dX0_goThroughLead_16 : decode cX0_goThroughLead 16 = .ok (.iaload, 1) := by decide +kernel
theorem dX0_goThroughLead_17 : decode cX0_goThroughLead 17 = .ok (.invokevirtual 63, 3) := by decide +kernel
theorem dX0_goThroughLead_20 : decode cX0_goThroughLead 20 = .ok (.iconst 0, 1) := by decide +kernel
theorem dX0_goThroughLead_21 : decode cX0_goThroughLead 21 = .ok (.istore_n 3, 1) := by decide +kernel
theorem dX0_goThroughLead_22 : decode cX0_goThroughLead 22 = .ok (.iload_n 3, 1) := by decide +kernel
theorem dX0_goThroughLead_23 : decode cX0_goThroughLead 23 = .ok (.bipush 6, 2) := by decide +kernel
theorem dX0_goThroughLead_25 : decode cX0_goThroughLead 25 = .ok (.if_icmp .ge 27, 3) := by decide +kernel
theorem dX0_goThroughLead_28 : decode cX0_goThroughLead 28 = .ok (.aload_n 1, 1) := by decide +kernel
theorem dX0_goThroughLead_29 : decode cX0_goThroughLead 29 = .ok (.iload_n 3, 1) := by decide +kernel
theorem dX0_goThroughLead_30 : decode cX0_goThroughLead 30 = .ok (.invokevirtual 67, 3) := by decide +kernel
theorem dX0_goThroughLead_33 : decode cX0_goThroughLead 33 = .ok (.ifCond .eq 13, 3) := by decide +kernel
theorem dX0_goThroughLead_36 : decode cX0_goThroughLead 36 = .ok (.aload_n 0, 1) := by decide +kernel
theorem dX0_goThroughLead_37 : decode cX0_goThroughLead 37 = .ok (.getfield 15, 3) := by decide +kernel
theorem dX0_goThroughLead_40 : decode cX0_goThroughLead 40 = .ok (.iload_n 3, 1) := by decide +kernel
theorem dX0_goThroughLead_41 : decode cX0_goThroughLead 41 = .ok (.dup2, 1) := by decide +kernel
theorem dX0_goThroughLead_42 : decode cX0_goThroughLead 42 = .ok (.iaload, 1) := by decide +kernel
theorem dX0_goThroughLead_43 : decode cX0_goThroughLead 43 = .ok (.iconst 1, 1) := by decide +kernel
theorem dX0_goThroughLead_44 : decode cX0_goThroughLead 44 = .ok (.iadd, 1) := by decide +kernel
theorem dX0_goThroughLead_45 : decode cX0_goThroughLead 45 = .ok (.iastore, 1) := by decide +kernel
theorem dX0_goThroughLead_46 : decode cX0_goThroughLead 46 = .ok (.iinc 3 1, 3) := by decide +kernel
theorem dX0_goThroughLead_49 : decode cX0_goThroughLead 49 = .ok (.goto (-27), 3) := by decide +kernel
theorem dX0_goThroughLead_52 : decode cX0_goThroughLead 52 = .ok (.iinc 2 1, 3) := by decide +kernel
theorem dX0_goThroughLead_55 : decode cX0_goThroughLead 55 = .ok (.goto (-53), 3) := by decide +kernel
theorem dX0_goThroughLead_58 : decode cX0_goThroughLead 58 = .ok (.return_, 1) := by decide +kernel
theorem dX0_tellOfCourse_0 : decode cX0_tellOfCourse 0 = .ok (.iload_n 1, 1) := by decide +kernel
theorem dX0_tellOfCourse_1 : decode cX0_tellOfCourse 1 = .ok (.tableswitch 60 0 4 #[35, 40, 45, 50, 55], 35) := by decide +kernel
theorem dX0_tellOfCourse_36 : decode cX0_tellOfCourse 36 = .ok (.aload_n 0, 1) := by decide +kernel
theorem dX0_tellOfCourse_37 : decode cX0_tellOfCourse 37 = .ok (.getfield 28, 3) := by decide +kernel
theorem dX0_tellOfCourse_40 : decode cX0_tellOfCourse 40 = .ok (.ireturn, 1) := by decide +kernel
theorem dX0_tellOfCourse_41 : decode cX0_tellOfCourse 41 = .ok (.aload_n 0, 1) := by decide +kernel
theorem dX0_tellOfCourse_42 : decode cX0_tellOfCourse 42 = .ok (.getfield 18, 3) := by decide +kernel
theorem dX0_tellOfCourse_45 : decode cX0_tellOfCourse 45 = .ok (.ireturn, 1) := by decide +kernel
theorem dX0_tellOfCourse_46 : decode cX0_tellOfCourse 46 = .ok (.aload_n 0, 1) := by decide +kernel
theorem dX0_tellOfCourse_47 : decode cX0_tellOfCourse 47 = .ok (.getfield 22, 3) := by decide +kernel
theorem dX0_tellOfCourse_50 : decode cX0_tellOfCourse 50 = .ok (.ireturn, 1) := by decide +kernel
theorem dX0_tellOfCourse_51 : decode cX0_tellOfCourse 51 = .ok (.aload_n 0, 1) := by decide +kernel
theorem dX0_tellOfCourse_52 : decode cX0_tellOfCourse 52 = .ok (.getfield 60, 3) := by decide +kernel
theorem dX0_tellOfCourse_55 : decode cX0_tellOfCourse 55 = .ok (.ireturn, 1) := by decide +kernel
theorem dX0_tellOfCourse_56 : decode cX0_tellOfCourse 56 = .ok (.aload_n 0, 1) := by decide +kernel
theorem dX0_tellOfCourse_57 : decode cX0_tellOfCourse 57 = .ok (.invokevirtual 71, 3) := by decide +kernel
theorem dX0_tellOfCourse_60 : decode cX0_tellOfCourse 60 = .ok (.ireturn, 1) := by decide +kernel
theorem dX0_tellOfCourse_61 : decode cX0_tellOfCourse 61 = .ok (.aload_n 0, 1) := by decide +kernel
theorem dX0_tellOfCourse_62 : decode cX0_tellOfCourse 62 = .ok (.getfield 25, 3) := by decide +kernel
theorem dX0_tellOfCourse_65 : decode cX0_tellOfCourse 65 = .ok (.ireturn, 1) := by decide +kernel
theorem dX0_allDodges_0 : decode cX0_allDodges 0 = .ok (.iconst 0, 1) := by decide +kernel
theorem dX0_allDodges_1 : decode cX0_allDodges 1 = .ok (.istore_n 1, 1) := by decide +kernel
theorem dX0_allDodges_2 : decode cX0_allDodges 2 = .ok (.iconst 0, 1) := by decide +kernel
theorem dX0_allDodges_3 : decode cX0_allDodges 3 = .ok (.istore_n 2, 1) := by decide +kernel
theorem dX0_allDodges_4 : decode cX0_allDodges 4 = .ok (.iload_n 2, 1) := by decide +kernel
theorem dX0_allDodges_5 : decode cX0_allDodges 5 = .ok (.bipush 6, 2) := by decide +kernel
theorem dX0_allDodges_7 : decode cX0_allDodges 7 = .ok (.if_icmp .ge 18, 3) := by decide +kernel
theorem dX0_allDodges_10 : decode cX0_allDodges 10 = .ok (.iload_n 1, 1) := by decide +kernel
theorem dX0_allDodges_11 : decode cX0_allDodges 11 = .ok (.aload_n 0, 1) := by decide +kernel
theorem dX0_allDodges_12 : decode cX0_allDodges 12 = .ok (.getfield 15, 3) := by decide +kernel
theorem dX0_allDodges_15 : decode cX0_allDodges 15 = .ok (.iload_n 2, 1) := by decide +kernel
theorem dX0_allDodges_16 : decode cX0_allDodges 16 = .ok (.iaload, 1) := by decide +kernel
theorem dX0_allDodges_17 : decode cX0_allDodges 17 = .ok (.iadd, 1) := by decide +kernel
theorem dX0_allDodges_18 : decode cX0_allDodges 18 = .ok (.istore_n 1, 1) := by decide +kernel
theorem dX0_allDodges_19 : decode cX0_allDodges 19 = .ok (.iinc 2 1, 3) := by decide +kernel
theorem dX0_allDodges_22 : decode cX0_allDodges 22 = .ok (.goto (-18), 3) := by decide +kernel
theorem dX0_allDodges_25 : decode cX0_allDodges 25 = .ok (.iload_n 1, 1) := by decide +kernel
theorem dX0_allDodges_26 : decode cX0_allDodges 26 = .ok (.ireturn, 1) := by decide +kernel
theorem dX1_init_0 : decode cX1_init 0 = .ok (.aload_n 0, 1) := by decide +kernel
theorem dX1_init_1 : decode cX1_init 1 = .ok (.invokespecial 3, 3) := by decide +kernel
theorem dX1_init_4 : decode cX1_init 4 = .ok (.aload_n 0, 1) := by decide +kernel
theorem dX1_init_5 : decode cX1_init 5 = .ok (.bipush 6, 2) := by decide +kernel
theorem dX1_init_7 : decode cX1_init 7 = .ok (.newarray .int, 2) := by decide +kernel
theorem dX1_init_9 : decode cX1_init 9 = .ok (.putfield 9, 3) := by decide +kernel
theorem dX1_init_12 : decode cX1_init 12 = .ok (.aload_n 0, 1) := by decide +kernel
theorem dX1_init_13 : decode cX1_init 13 = .ok (.bipush 6, 2) := by decide +kernel
theorem dX1_init_15 : decode cX1_init 15 = .ok (.newarray .int, 2) := by decide +kernel
theorem dX1_init_17 : decode cX1_init 17 = .ok (.putfield 15, 3) := by decide +kernel
theorem dX1_init_20 : decode cX1_init 20 = .ok (.aload_n 0, 1) := by decide +kernel
theorem dX1_init_21 : decode cX1_init 21 = .ok (.bipush 6, 2) := by decide +kernel
theorem dX1_init_23 : decode cX1_init 23 = .ok (.newarray .int, 2) := by decide +kernel
theorem dX1_init_25 : decode cX1_init 25 = .ok (.putfield 18, 3) := by decide +kernel
theorem dX1_init_28 : decode cX1_init 28 = .ok (.aload_n 0, 1) := by decide +kernel
theorem dX1_init_29 : decode cX1_init 29 = .ok (.bipush 122, 2) := by decide +kernel
theorem dX1_init_31 : decode cX1_init 31 = .ok (.newarray .long, 2) := by decide +kernel
theorem dX1_init_33 : decode cX1_init 33 = .ok (.putfield 21, 3) := by decide +kernel
theorem dX1_init_36 : decode cX1_init 36 = .ok (.return_, 1) := by decide +kernel
theorem dX1_begin_0 : decode cX1_begin 0 = .ok (.aload_n 0, 1) := by decide +kernel
theorem dX1_begin_1 : decode cX1_begin 1 = .ok (.getfield 21, 3) := by decide +kernel
theorem dX1_begin_4 : decode cX1_begin 4 = .ok (.lconst 0, 1) := by decide +kernel
theorem dX1_begin_5 : decode cX1_begin 5 = .ok (.invokestatic 25, 3) := by decide +kernel
theorem dX1_begin_8 : decode cX1_begin 8 = .ok (.iconst 0, 1) := by decide +kernel
theorem dX1_begin_9 : decode cX1_begin 9 = .ok (.istore_n 1, 1) := by decide +kernel
theorem dX1_begin_10 : decode cX1_begin 10 = .ok (.iload_n 1, 1) := by decide +kernel
theorem dX1_begin_11 : decode cX1_begin 11 = .ok (.bipush 6, 2) := by decide +kernel
theorem dX1_begin_13 : decode cX1_begin 13 = .ok (.if_icmp .ge 23, 3) := by decide +kernel
theorem dX1_begin_16 : decode cX1_begin 16 = .ok (.aload_n 0, 1) := by decide +kernel
theorem dX1_begin_17 : decode cX1_begin 17 = .ok (.getfield 9, 3) := by decide +kernel
theorem dX1_begin_20 : decode cX1_begin 20 = .ok (.iload_n 1, 1) := by decide +kernel
theorem dX1_begin_21 : decode cX1_begin 21 = .ok (.iload_n 1, 1) := by decide +kernel
theorem dX1_begin_22 : decode cX1_begin 22 = .ok (.iastore, 1) := by decide +kernel
theorem dX1_begin_23 : decode cX1_begin 23 = .ok (.aload_n 0, 1) := by decide +kernel
theorem dX1_begin_24 : decode cX1_begin 24 = .ok (.getfield 15, 3) := by decide +kernel
theorem dX1_begin_27 : decode cX1_begin 27 = .ok (.iload_n 1, 1) := by decide +kernel
theorem dX1_begin_28 : decode cX1_begin 28 = .ok (.iconst 0, 1) := by decide +kernel
theorem dX1_begin_29 : decode cX1_begin 29 = .ok (.iastore, 1) := by decide +kernel
theorem dX1_begin_30 : decode cX1_begin 30 = .ok (.iinc 1 1, 3) := by decide +kernel
theorem dX1_begin_33 : decode cX1_begin 33 = .ok (.goto (-23), 3) := by decide +kernel
theorem dX1_begin_36 : decode cX1_begin 36 = .ok (.aload_n 0, 1) := by decide +kernel
theorem dX1_begin_37 : decode cX1_begin 37 = .ok (.iconst 0, 1) := by decide +kernel
theorem dX1_begin_38 : decode cX1_begin 38 = .ok (.putfield 31, 3) := by decide +kernel
theorem dX1_begin_41 : decode cX1_begin 41 = .ok (.aload_n 0, 1) := by decide +kernel
theorem dX1_begin_42 : decode cX1_begin 42 = .ok (.iconst 0, 1) := by decide +kernel
theorem dX1_begin_43 : decode cX1_begin 43 = .ok (.putfield 35, 3) := by decide +kernel
theorem dX1_begin_46 : decode cX1_begin 46 = .ok (.aload_n 0, 1) := by decide +kernel
theorem dX1_begin_47 : decode cX1_begin 47 = .ok (.invokevirtual 38, 3) := by decide +kernel
theorem dX1_begin_50 : decode cX1_begin 50 = .ok (.return_, 1) := by decide +kernel
theorem dX1_makeChange_0 : decode cX1_makeChange 0 = .ok (.iconst 0, 1) := by decide +kernel
theorem dX1_makeChange_1 : decode cX1_makeChange 1 = .ok (.istore_n 2, 1) := by decide +kernel
theorem dX1_makeChange_2 : decode cX1_makeChange 2 = .ok (.iload_n 2, 1) := by decide +kernel
theorem dX1_makeChange_3 : decode cX1_makeChange 3 = .ok (.bipush 6, 2) := by decide +kernel
theorem dX1_makeChange_5 : decode cX1_makeChange 5 = .ok (.if_icmp .ge 49, 3) := by decide +kernel
theorem dX1_makeChange_8 : decode cX1_makeChange 8 = .ok (.aload_n 0, 1) := by decide +kernel
theorem dX1_makeChange_9 : decode cX1_makeChange 9 = .ok (.getfield 9, 3) := by decide +kernel
theorem dX1_makeChange_12 : decode cX1_makeChange 12 = .ok (.iload_n 2, 1) := by decide +kernel
theorem dX1_makeChange_13 : decode cX1_makeChange 13 = .ok (.iaload, 1) := by decide +kernel
theorem dX1_makeChange_14 : decode cX1_makeChange 14 = .ok (.iload_n 1, 1) := by decide +kernel
theorem dX1_makeChange_15 : decode cX1_makeChange 15 = .ok (.invokestatic 41, 3) := by decide +kernel
theorem dX1_makeChange_18 : decode cX1_makeChange 18 = .ok (.istore_n 3, 1) := by decide +kernel
theorem dX1_makeChange_19 : decode cX1_makeChange 19 = .ok (.aload_n 0, 1) := by decide +kernel
theorem dX1_makeChange_20 : decode cX1_makeChange 20 = .ok (.getfield 18, 3) := by decide +kernel
theorem dX1_makeChange_23 : decode cX1_makeChange 23 = .ok (.iload_n 2, 1) := by decide +kernel
theorem dX1_makeChange_24 : decode cX1_makeChange 24 = .ok (.aload_n 0, 1) := by decide +kernel
theorem dX1_makeChange_25 : decode cX1_makeChange 25 = .ok (.getfield 15, 3) := by decide +kernel
theorem dX1_makeChange_28 : decode cX1_makeChange 28 = .ok (.iload_n 2, 1) := by decide +kernel
theorem dX1_makeChange_29 : decode cX1_makeChange 29 = .ok (.iaload, 1) := by decide +kernel
theorem dX1_makeChange_30 : decode cX1_makeChange 30 = .ok (.iastore, 1) := by decide +kernel
theorem dX1_makeChange_31 : decode cX1_makeChange 31 = .ok (.aload_n 0, 1) := by decide +kernel
theorem dX1_makeChange_32 : decode cX1_makeChange 32 = .ok (.getfield 15, 3) := by decide +kernel
theorem dX1_makeChange_35 : decode cX1_makeChange 35 = .ok (.iload_n 2, 1) := by decide +kernel
theorem dX1_makeChange_36 : decode cX1_makeChange 36 = .ok (.iload_n 3, 1) := by decide +kernel
theorem dX1_makeChange_37 : decode cX1_makeChange 37 = .ok (.iastore, 1) := by decide +kernel
theorem dX1_makeChange_38 : decode cX1_makeChange 38 = .ok (.aload_n 0, 1) := by decide +kernel
theorem dX1_makeChange_39 : decode cX1_makeChange 39 = .ok (.getfield 9, 3) := by decide +kernel
theorem dX1_makeChange_42 : decode cX1_makeChange 42 = .ok (.iload_n 2, 1) := by decide +kernel
theorem dX1_makeChange_43 : decode cX1_makeChange 43 = .ok (.dup2, 1) := by decide +kernel
theorem dX1_makeChange_44 : decode cX1_makeChange 44 = .ok (.iaload, 1) := by decide +kernel
theorem dX1_makeChange_45 : decode cX1_makeChange 45 = .ok (.iload_n 3, 1) := by decide +kernel
theorem dX1_makeChange_46 : decode cX1_makeChange 46 = .ok (.iadd, 1) := by decide +kernel
theorem dX1_makeChange_47 : decode cX1_makeChange 47 = .ok (.iastore, 1) := by decide +kernel
theorem dX1_makeChange_48 : decode cX1_makeChange 48 = .ok (.iinc 2 1, 3) := by decide +kernel
theorem dX1_makeChange_51 : decode cX1_makeChange 51 = .ok (.goto (-49), 3) := by decide +kernel
theorem dX1_makeChange_54 : decode cX1_makeChange 54 = .ok (.aload_n 0, 1) := by decide +kernel
theorem dX1_makeChange_55 : decode cX1_makeChange 55 = .ok (.dup, 1) := by decide +kernel
theorem dX1_makeChange_56 : decode cX1_makeChange 56 = .ok (.getfield 31, 3) := by decide +kernel
theorem dX1_makeChange_59 : decode cX1_makeChange 59 = .ok (.iconst 1, 1) := by decide +kernel
theorem dX1_makeChange_60 : decode cX1_makeChange 60 = .ok (.iadd, 1) := by decide +kernel
theorem dX1_makeChange_61 : decode cX1_makeChange 61 = .ok (.putfield 31, 3) := by decide +kernel
theorem dX1_makeChange_64 : decode cX1_makeChange 64 = .ok (.aload_n 0, 1) := by decide +kernel
theorem dX1_makeChange_65 : decode cX1_makeChange 65 = .ok (.invokevirtual 38, 3) := by decide +kernel
theorem dX1_makeChange_68 : decode cX1_makeChange 68 = .ok (.return_, 1) := by decide +kernel
theorem dX1_moveFrom_0 : decode cX1_moveFrom 0 = .ok (.iload_n 1, 1) := by decide +kernel
theorem dX1_moveFrom_1 : decode cX1_moveFrom 1 = .ok (.iload_n 0, 1) := by decide +kernel
theorem dX1_moveFrom_2 : decode cX1_moveFrom 2 = .ok (.ishr, 1) := by decide +kernel
theorem dX1_moveFrom_3 : decode cX1_moveFrom 3 = .ok (.iconst 1, 1) := by decide +kernel
theorem dX1_moveFrom_4 : decode cX1_moveFrom 4 = .ok (.iand, 1) := by decide +kernel
theorem dX1_moveFrom_5 : decode cX1_moveFrom 5 = .ok (.ifCond .eq 5, 3) := by decide +kernel
theorem dX1_moveFrom_8 : decode cX1_moveFrom 8 = .ok (.iconst 1, 1) := by decide +kernel
theorem dX1_moveFrom_9 : decode cX1_moveFrom 9 = .ok (.ireturn, 1) := by decide +kernel
theorem dX1_moveFrom_10 : decode cX1_moveFrom 10 = .ok (.iload_n 0, 1) := by decide +kernel
theorem dX1_moveFrom_11 : decode cX1_moveFrom 11 = .ok (.ifCond .le 15, 3) := by decide +kernel
theorem dX1_moveFrom_14 : decode cX1_moveFrom 14 = .ok (.iload_n 1, 1) := by decide +kernel
theorem dX1_moveFrom_15 : decode cX1_moveFrom 15 = .ok (.iload_n 0, 1) := by decide +kernel
theorem dX1_moveFrom_16 : decode cX1_moveFrom 16 = .ok (.iconst 1, 1) := by decide +kernel
theorem dX1_moveFrom_17 : decode cX1_moveFrom 17 = .ok (.isub, 1) := by decide +kernel
theorem dX1_moveFrom_18 : decode cX1_moveFrom 18 = .ok (.ishr, 1) := by decide +kernel
theorem dX1_moveFrom_19 : decode cX1_moveFrom 19 = .ok (.iconst 1, 1) := by decide +kernel
theorem dX1_moveFrom_20 : decode cX1_moveFrom 20 = .ok (.iand, 1) := by decide +kernel
theorem dX1_moveFrom_21 : decode cX1_moveFrom 21 = .ok (.ifCond .eq 5, 3) := by decide +kernel
theorem dX1_moveFrom_24 : decode cX1_moveFrom 24 = .ok (.iconst (-1), 1) := by decide +kernel
theorem dX1_moveFrom_25 : decode cX1_moveFrom 25 = .ok (.ireturn, 1) := by decide +kernel
theorem dX1_moveFrom_26 : decode cX1_moveFrom 26 = .ok (.iconst 0, 1) := by decide +kernel
theorem dX1_moveFrom_27 : decode cX1_moveFrom 27 = .ok (.ireturn, 1) := by decide +kernel
theorem dX1_noteRow_0 : decode cX1_noteRow 0 = .ok (.iconst 0, 1) := by decide +kernel
theorem dX1_noteRow_1 : decode cX1_noteRow 1 = .ok (.istore_n 1, 1) := by decide +kernel
theorem dX1_noteRow_2 : decode cX1_noteRow 2 = .ok (.iconst 0, 1) := by decide +kernel
theorem dX1_noteRow_3 : decode cX1_noteRow 3 = .ok (.istore_n 2, 1) := by decide +kernel
theorem dX1_noteRow_4 : decode cX1_noteRow 4 = .ok (.iload_n 2, 1) := by decide +kernel
theorem dX1_noteRow_5 : decode cX1_noteRow 5 = .ok (.iconst 5, 1) := by decide +kernel
theorem dX1_noteRow_6 : decode cX1_noteRow 6 = .ok (.if_icmp .ge 21, 3) := by decide +kernel
theorem dX1_noteRow_9 : decode cX1_noteRow 9 = .ok (.iload_n 1, 1) := by decide +kernel
theorem dX1_noteRow_10 : decode cX1_noteRow 10 = .ok (.bipush 6, 2) := by decide +kernel
theorem dX1_noteRow_12 : decode cX1_noteRow 12 = .ok (.imul, 1) := by decide +kernel
theorem dX1_noteRow_13 : decode cX1_noteRow 13 = .ok (.aload_n 0, 1) := by decide +kernel
theorem dX1_noteRow_14 : decode cX1_noteRow 14 = .ok (.getfield 9, 3) := by decide +kernel
theorem dX1_noteRow_17 : decode cX1_noteRow 17 = .ok (.iload_n 2, 1) := by decide +kernel
theorem dX1_noteRow_18 : decode cX1_noteRow 18 = .ok (.iaload, 1) := by decide +kernel
theorem dX1_noteRow_19 : decode cX1_noteRow 19 = .ok (.iadd, 1) := by decide +kernel
theorem dX1_noteRow_20 : decode cX1_noteRow 20 = .ok (.istore_n 1, 1) := by decide +kernel
theorem dX1_noteRow_21 : decode cX1_noteRow 21 = .ok (.iinc 2 1, 3) := by decide +kernel
theorem dX1_noteRow_24 : decode cX1_noteRow 24 = .ok (.goto (-20), 3) := by decide +kernel
theorem dX1_noteRow_27 : decode cX1_noteRow 27 = .ok (.iload_n 1, 1) := by decide +kernel
theorem dX1_noteRow_28 : decode cX1_noteRow 28 = .ok (.bipush 64, 2) := by decide +kernel
theorem dX1_noteRow_30 : decode cX1_noteRow 30 = .ok (.idiv, 1) := by decide +kernel
theorem dX1_noteRow_31 : decode cX1_noteRow 31 = .ok (.istore_n 2, 1) := by decide +kernel
theorem dX1_noteRow_32 : decode cX1_noteRow 32 = .ok (.iload_n 2, 1) := by decide +kernel
theorem dX1_noteRow_33 : decode cX1_noteRow 33 = .ok (.ifCond .lt 9, 3) := by decide +kernel
theorem dX1_noteRow_36 : decode cX1_noteRow 36 = .ok (.iload_n 2, 1) := by decide +kernel
theorem dX1_noteRow_37 : decode cX1_noteRow 37 = .ok (.bipush 122, 2) := by decide +kernel
theorem dX1_noteRow_39 : decode cX1_noteRow 39 = .ok (.if_icmp .lt 4, 3) := by decide +kernel
theorem dX1_noteRow_42 : decode cX1_noteRow 42 = .ok (.return_, 1) := by decide +kernel
theorem dX1_noteRow_43 : decode cX1_noteRow 43 = .ok (.lconst 1, 1) := by decide +kernel
theorem dX1_noteRow_44 : decode cX1_noteRow 44 = .ok (.iload_n 1, 1) := by decide +kernel
theorem dX1_noteRow_45 : decode cX1_noteRow 45 = .ok (.bipush 64, 2) := by decide +kernel
theorem dX1_noteRow_47 : decode cX1_noteRow 47 = .ok (.irem, 1) := by decide +kernel
theorem dX1_noteRow_48 : decode cX1_noteRow 48 = .ok (.lshl, 1) := by decide +kernel
theorem dX1_noteRow_49 : decode cX1_noteRow 49 = .ok (.lstore_n 3, 1) := by decide +kernel
theorem dX1_noteRow_50 : decode cX1_noteRow 50 = .ok (.aload_n 0, 1) := by decide +kernel
theorem dX1_noteRow_51 : decode cX1_noteRow 51 = .ok (.getfield 21, 3) := by decide +kernel
theorem dX1_noteRow_54 : decode cX1_noteRow 54 = .ok (.iload_n 2, 1) := by decide +kernel
theorem dX1_noteRow_55 : decode cX1_noteRow 55 = .ok (.laload, 1) := by decide +kernel
theorem dX1_noteRow_56 : decode cX1_noteRow 56 = .ok (.lload_n 3, 1) := by decide +kernel
theorem dX1_noteRow_57 : decode cX1_noteRow 57 = .ok (.land, 1) := by decide +kernel
theorem dX1_noteRow_58 : decode cX1_noteRow 58 = .ok (.lconst 0, 1) := by decide +kernel
theorem dX1_noteRow_59 : decode cX1_noteRow 59 = .ok (.lcmp, 1) := by decide +kernel
theorem dX1_noteRow_60 : decode cX1_noteRow 60 = .ok (.ifCond .eq 13, 3) := by decide +kernel
theorem dX1_noteRow_63 : decode cX1_noteRow 63 = .ok (.aload_n 0, 1) := by decide +kernel
theorem dX1_noteRow_64 : decode cX1_noteRow 64 = .ok (.dup, 1) := by decide +kernel
theorem dX1_noteRow_65 : decode cX1_noteRow 65 = .ok (.getfield 35, 3) := by decide +kernel
theorem dX1_noteRow_68 : decode cX1_noteRow 68 = .ok (.iconst 1, 1) := by decide +kernel
theorem dX1_noteRow_69 : decode cX1_noteRow 69 = .ok (.iadd, 1) := by decide +kernel
theorem dX1_noteRow_70 : decode cX1_noteRow 70 = .ok (.putfield 35, 3) := by decide +kernel
theorem dX1_noteRow_73 : decode cX1_noteRow 73 = .ok (.aload_n 0, 1) := by decide +kernel
theorem dX1_noteRow_74 : decode cX1_noteRow 74 = .ok (.getfield 21, 3) := by decide +kernel
theorem dX1_noteRow_77 : decode cX1_noteRow 77 = .ok (.iload_n 2, 1) := by decide +kernel
theorem dX1_noteRow_78 : decode cX1_noteRow 78 = .ok (.dup2, 1) := by decide +kernel
theorem dX1_noteRow_79 : decode cX1_noteRow 79 = .ok (.laload, 1) := by decide +kernel
theorem dX1_noteRow_80 : decode cX1_noteRow 80 = .ok (.lload_n 3, 1) := by decide +kernel
theorem dX1_noteRow_81 : decode cX1_noteRow 81 = .ok (.lor, 1) := by decide +kernel
theorem dX1_noteRow_82 : decode cX1_noteRow 82 = .ok (.lastore, 1) := by decide +kernel
theorem dX1_noteRow_83 : decode cX1_noteRow 83 = .ok (.return_, 1) := by decide +kernel
theorem dX1_hasDodged_0 : decode cX1_hasDodged 0 = .ok (.iload_n 1, 1) := by decide +kernel
theorem dX1_hasDodged_1 : decode cX1_hasDodged 1 = .ok (.ifCond .lt 9, 3) := by decide +kernel
theorem dX1_hasDodged_4 : decode cX1_hasDodged 4 = .ok (.iload_n 1, 1) := by decide +kernel
theorem dX1_hasDodged_5 : decode cX1_hasDodged 5 = .ok (.bipush 6, 2) := by decide +kernel
theorem dX1_hasDodged_7 : decode cX1_hasDodged 7 = .ok (.if_icmp .lt 5, 3) := by decide +kernel
theorem dX1_hasDodged_10 : decode cX1_hasDodged 10 = .ok (.iconst 0, 1) := by decide +kernel
theorem dX1_hasDodged_11 : decode cX1_hasDodged 11 = .ok (.ireturn, 1) := by decide +kernel
theorem dX1_hasDodged_12 : decode cX1_hasDodged 12 = .ok (.aload_n 0, 1) := by decide +kernel
theorem dX1_hasDodged_13 : decode cX1_hasDodged 13 = .ok (.getfield 15, 3) := by decide +kernel
theorem dX1_hasDodged_16 : decode cX1_hasDodged 16 = .ok (.iload_n 1, 1) := by decide +kernel
theorem dX1_hasDodged_17 : decode cX1_hasDodged 17 = .ok (.iaload, 1) := by decide +kernel
theorem dX1_hasDodged_18 : decode cX1_hasDodged 18 = .ok (.ifCond .eq 23, 3) := by decide +kernel
theorem dX1_hasDodged_21 : decode cX1_hasDodged 21 = .ok (.aload_n 0, 1) := by decide +kernel
theorem dX1_hasDodged_22 : decode cX1_hasDodged 22 = .ok (.getfield 15, 3) := by decide +kernel
theorem dX1_hasDodged_25 : decode cX1_hasDodged 25 = .ok (.iload_n 1, 1) := by decide +kernel
theorem dX1_hasDodged_26 : decode cX1_hasDodged 26 = .ok (.iaload, 1) := by decide +kernel
theorem dX1_hasDodged_27 : decode cX1_hasDodged 27 = .ok (.aload_n 0, 1) := by decide +kernel
theorem dX1_hasDodged_28 : decode cX1_hasDodged 28 = .ok (.getfield 18, 3) := by decide +kernel
theorem dX1_hasDodged_31 : decode cX1_hasDodged 31 = .ok (.iload_n 1, 1) := by decide +kernel
theorem dX1_hasDodged_32 : decode cX1_hasDodged 32 = .ok (.iaload, 1) := by decide +kernel
theorem dX1_hasDodged_33 : decode cX1_hasDodged 33 = .ok (.ineg, 1) := by decide +kernel
theorem dX1_hasDodged_34 : decode cX1_hasDodged 34 = .ok (.if_icmp .ne 7, 3) := by decide +kernel
theorem dX1_hasDodged_37 : decode cX1_hasDodged 37 = .ok (.iconst 1, 1) := by decide +kernel
theorem dX1_hasDodged_38 : decode cX1_hasDodged 38 = .ok (.goto 4, 3) := by decide +kernel
theorem dX1_hasDodged_41 : decode cX1_hasDodged 41 = .ok (.iconst 0, 1) := by decide +kernel
theorem dX1_hasDodged_42 : decode cX1_hasDodged 42 = .ok (.ireturn, 1) := by decide +kernel
theorem dX1_bellsAtHome_0 : decode cX1_bellsAtHome 0 = .ok (.iconst 0, 1) := by decide +kernel
theorem dX1_bellsAtHome_1 : decode cX1_bellsAtHome 1 = .ok (.istore_n 1, 1) := by decide +kernel
theorem dX1_bellsAtHome_2 : decode cX1_bellsAtHome 2 = .ok (.iconst 0, 1) := by decide +kernel
theorem dX1_bellsAtHome_3 : decode cX1_bellsAtHome 3 = .ok (.istore_n 2, 1) := by decide +kernel
theorem dX1_bellsAtHome_4 : decode cX1_bellsAtHome 4 = .ok (.iload_n 2, 1) := by decide +kernel
theorem dX1_bellsAtHome_5 : decode cX1_bellsAtHome 5 = .ok (.bipush 6, 2) := by decide +kernel
theorem dX1_bellsAtHome_7 : decode cX1_bellsAtHome 7 = .ok (.if_icmp .ge 22, 3) := by decide +kernel
theorem dX1_bellsAtHome_10 : decode cX1_bellsAtHome 10 = .ok (.aload_n 0, 1) := by decide +kernel
theorem dX1_bellsAtHome_11 : decode cX1_bellsAtHome 11 = .ok (.getfield 9, 3) := by decide +kernel
theorem dX1_bellsAtHome_14 : decode cX1_bellsAtHome 14 = .ok (.iload_n 2, 1) := by decide +kernel
theorem dX1_bellsAtHome_15 : decode cX1_bellsAtHome 15 = .ok (.iaload, 1) := by decide +kernel
theorem dX1_bellsAtHome_16 : decode cX1_bellsAtHome 16 = .ok (.iload_n 2, 1) := by decide +kernel
theorem dX1_bellsAtHome_17 : decode cX1_bellsAtHome 17 = .ok (.if_icmp .ne 6, 3) := by decide +kernel
theorem dX1_bellsAtHome_20 : decode cX1_bellsAtHome 20 = .ok (.iinc 1 1, 3) := by decide +kernel
theorem dX1_bellsAtHome_23 : decode cX1_bellsAtHome 23 = .ok (.iinc 2 1, 3) := by decide +kernel
theorem dX1_bellsAtHome_26 : decode cX1_bellsAtHome 26 = .ok (.goto (-22), 3) := by decide +kernel
theorem dX1_bellsAtHome_29 : decode cX1_bellsAtHome 29 = .ok (.iload_n 1, 1) := by decide +kernel
theorem dX1_bellsAtHome_30 : decode cX1_bellsAtHome 30 = .ok (.ireturn, 1) := by decide +kernel
theorem dX1_isRounds_0 : decode cX1_isRounds 0 = .ok (.aload_n 0, 1) := by decide +kernel
theorem dX1_isRounds_1 : decode cX1_isRounds 1 = .ok (.invokevirtual 45, 3) := by decide +kernel
theorem dX1_isRounds_4 : decode cX1_isRounds 4 = .ok (.bipush 6, 2) := by decide +kernel
theorem dX1_isRounds_6 : decode cX1_isRounds 6 = .ok (.if_icmp .ne 7, 3) := by decide +kernel
theorem dX1_isRounds_9 : decode cX1_isRounds 9 = .ok (.iconst 1, 1) := by decide +kernel
theorem dX1_isRounds_10 : decode cX1_isRounds 10 = .ok (.goto 4, 3) := by decide +kernel
theorem dX1_isRounds_13 : decode cX1_isRounds 13 = .ok (.iconst 0, 1) := by decide +kernel
theorem dX1_isRounds_14 : decode cX1_isRounds 14 = .ok (.ireturn, 1) := by decide +kernel
theorem dX1_falseRows_0 : decode cX1_falseRows 0 = .ok (.aload_n 0, 1) := by decide +kernel
theorem dX1_falseRows_1 : decode cX1_falseRows 1 = .ok (.invokevirtual 49, 3) := by decide +kernel
theorem dX1_falseRows_4 : decode cX1_falseRows 4 = .ok (.ifCond .eq 19, 3) := by decide +kernel
theorem dX1_falseRows_7 : decode cX1_falseRows 7 = .ok (.aload_n 0, 1) := by decide +kernel
theorem dX1_falseRows_8 : decode cX1_falseRows 8 = .ok (.getfield 31, 3) := by decide +kernel
theorem dX1_falseRows_11 : decode cX1_falseRows 11 = .ok (.ifCond .le 12, 3) := by decide +kernel
theorem dX1_falseRows_14 : decode cX1_falseRows 14 = .ok (.aload_n 0, 1) := by decide +kernel
theorem dX1_falseRows_15 : decode cX1_falseRows 15 = .ok (.getfield 35, 3) := by decide +kernel
theorem dX1_falseRows_18 : decode cX1_falseRows 18 = .ok (.iconst 1, 1) := by decide +kernel
theorem dX1_falseRows_19 : decode cX1_falseRows 19 = .ok (.isub, 1) := by decide +kernel
theorem dX1_falseRows_20 : decode cX1_falseRows 20 = .ok (.goto 7, 3) := by decide +kernel
theorem dX1_falseRows_23 : decode cX1_falseRows 23 = .ok (.aload_n 0, 1) := by decide +kernel
theorem dX1_falseRows_24 : decode cX1_falseRows 24 = .ok (.getfield 35, 3) := by decide +kernel
theorem dX1_falseRows_27 : decode cX1_falseRows 27 = .ok (.ireturn, 1) := by decide +kernel
theorem dX1_differentRows_0 : decode cX1_differentRows 0 = .ok (.aload_n 0, 1) := by decide +kernel
theorem dX1_differentRows_1 : decode cX1_differentRows 1 = .ok (.getfield 31, 3) := by decide +kernel
theorem dX1_differentRows_4 : decode cX1_differentRows 4 = .ok (.iconst 1, 1) := by decide +kernel
theorem dX1_differentRows_5 : decode cX1_differentRows 5 = .ok (.iadd, 1) := by decide +kernel
theorem dX1_differentRows_6 : decode cX1_differentRows 6 = .ok (.aload_n 0, 1) := by decide +kernel
theorem dX1_differentRows_7 : decode cX1_differentRows 7 = .ok (.getfield 35, 3) := by decide +kernel
theorem dX1_differentRows_10 : decode cX1_differentRows 10 = .ok (.isub, 1) := by decide +kernel
theorem dX1_differentRows_11 : decode cX1_differentRows 11 = .ok (.ireturn, 1) := by decide +kernel
theorem dX1_rowCode_0 : decode cX1_rowCode 0 = .ok (.iconst 0, 1) := by decide +kernel
theorem dX1_rowCode_1 : decode cX1_rowCode 1 = .ok (.istore_n 1, 1) := by decide +kernel
theorem dX1_rowCode_2 : decode cX1_rowCode 2 = .ok (.iconst 0, 1) := by decide +kernel
theorem dX1_rowCode_3 : decode cX1_rowCode 3 = .ok (.istore_n 2, 1) := by decide +kernel
theorem dX1_rowCode_4 : decode cX1_rowCode 4 = .ok (.iload_n 2, 1) := by decide +kernel
theorem dX1_rowCode_5 : decode cX1_rowCode 5 = .ok (.bipush 6, 2) := by decide +kernel
theorem dX1_rowCode_7 : decode cX1_rowCode 7 = .ok (.if_icmp .ge 20, 3) := by decide +kernel
theorem dX1_rowCode_10 : decode cX1_rowCode 10 = .ok (.iload_n 1, 1) := by decide +kernel
theorem dX1_rowCode_11 : decode cX1_rowCode 11 = .ok (.bipush 6, 2) := by decide +kernel
theorem dX1_rowCode_13 : decode cX1_rowCode 13 = .ok (.imul, 1) := by decide +kernel
theorem dX1_rowCode_14 : decode cX1_rowCode 14 = .ok (.aload_n 0, 1) := by decide +kernel
theorem dX1_rowCode_15 : decode cX1_rowCode 15 = .ok (.iload_n 2, 1) := by decide +kernel
theorem dX1_rowCode_16 : decode cX1_rowCode 16 = .ok (.invokevirtual 53, 3) := by decide +kernel
theorem dX1_rowCode_19 : decode cX1_rowCode 19 = .ok (.iadd, 1) := by decide +kernel
theorem dX1_rowCode_20 : decode cX1_rowCode 20 = .ok (.istore_n 1, 1) := by decide +kernel
theorem dX1_rowCode_21 : decode cX1_rowCode 21 = .ok (.iinc 2 1, 3) := by decide +kernel
theorem dX1_rowCode_24 : decode cX1_rowCode 24 = .ok (.goto (-20), 3) := by decide +kernel
theorem dX1_rowCode_27 : decode cX1_rowCode 27 = .ok (.iload_n 1, 1) := by decide +kernel
theorem dX1_rowCode_28 : decode cX1_rowCode 28 = .ok (.ireturn, 1) := by decide +kernel
theorem dX1_bellAt_0 : decode cX1_bellAt 0 = .ok (.iconst 0, 1) := by decide +kernel
theorem dX1_bellAt_1 : decode cX1_bellAt 1 = .ok (.istore_n 2, 1) := by decide +kernel
theorem dX1_bellAt_2 : decode cX1_bellAt 2 = .ok (.iload_n 2, 1) := by decide +kernel
theorem dX1_bellAt_3 : decode cX1_bellAt 3 = .ok (.bipush 6, 2) := by decide +kernel
theorem dX1_bellAt_5 : decode cX1_bellAt 5 = .ok (.if_icmp .ge 21, 3) := by decide +kernel
theorem dX1_bellAt_8 : decode cX1_bellAt 8 = .ok (.aload_n 0, 1) := by decide +kernel
theorem dX1_bellAt_9 : decode cX1_bellAt 9 = .ok (.getfield 9, 3) := by decide +kernel
theorem dX1_bellAt_12 : decode cX1_bellAt 12 = .ok (.iload_n 2, 1) := by decide +kernel
theorem dX1_bellAt_13 : decode cX1_bellAt 13 = .ok (.iaload, 1) := by decide +kernel
theorem dX1_bellAt_14 : decode cX1_bellAt 14 = .ok (.iload_n 1, 1) := by decide +kernel
theorem dX1_bellAt_15 : decode cX1_bellAt 15 = .ok (.if_icmp .ne 5, 3) := by decide +kernel
theorem dX1_bellAt_18 : decode cX1_bellAt 18 = .ok (.iload_n 2, 1) := by decide +kernel
theorem dX1_bellAt_19 : decode cX1_bellAt 19 = .ok (.ireturn, 1) := by decide +kernel
theorem dX1_bellAt_20 : decode cX1_bellAt 20 = .ok (.iinc 2 1, 3) := by decide +kernel
theorem dX1_bellAt_23 : decode cX1_bellAt 23 = .ok (.goto (-21), 3) := by decide +kernel
theorem dX1_bellAt_26 : decode cX1_bellAt 26 = .ok (.iconst 0, 1) := by decide +kernel
theorem dX1_bellAt_27 : decode cX1_bellAt 27 = .ok (.ireturn, 1) := by decide +kernel
theorem dX2_init_0 : decode cX2_init 0 = .ok (.aload_n 0, 1) := by decide +kernel
theorem dX2_init_1 : decode cX2_init 1 = .ok (.invokespecial 3, 3) := by decide +kernel
theorem dX2_init_4 : decode cX2_init 4 = .ok (.aload_n 0, 1) := by decide +kernel
theorem dX2_init_5 : decode cX2_init 5 = .ok (.bipush 20, 2) := by decide +kernel
theorem dX2_init_7 : decode cX2_init 7 = .ok (.newarray .int, 2) := by decide +kernel
theorem dX2_init_9 : decode cX2_init 9 = .ok (.putfield 9, 3) := by decide +kernel
theorem dX2_init_12 : decode cX2_init 12 = .ok (.aload_n 0, 1) := by decide +kernel
theorem dX2_init_13 : decode cX2_init 13 = .ok (.bipush 20, 2) := by decide +kernel
theorem dX2_init_15 : decode cX2_init 15 = .ok (.newarray .int, 2) := by decide +kernel
theorem dX2_init_17 : decode cX2_init 17 = .ok (.putfield 15, 3) := by decide +kernel
theorem dX2_init_20 : decode cX2_init 20 = .ok (.aload_n 0, 1) := by decide +kernel
theorem dX2_init_21 : decode cX2_init 21 = .ok (.bipush 20, 2) := by decide +kernel
theorem dX2_init_23 : decode cX2_init 23 = .ok (.newarray .int, 2) := by decide +kernel
theorem dX2_init_25 : decode cX2_init 25 = .ok (.putfield 18, 3) := by decide +kernel
theorem dX2_init_28 : decode cX2_init 28 = .ok (.aload_n 0, 1) := by decide +kernel
theorem dX2_init_29 : decode cX2_init 29 = .ok (.bipush 20, 2) := by decide +kernel
theorem dX2_init_31 : decode cX2_init 31 = .ok (.newarray .int, 2) := by decide +kernel
theorem dX2_init_33 : decode cX2_init 33 = .ok (.putfield 21, 3) := by decide +kernel
theorem dX2_init_36 : decode cX2_init 36 = .ok (.aload_n 0, 1) := by decide +kernel
theorem dX2_init_37 : decode cX2_init 37 = .ok (.bipush 20, 2) := by decide +kernel
theorem dX2_init_39 : decode cX2_init 39 = .ok (.newarray .int, 2) := by decide +kernel
theorem dX2_init_41 : decode cX2_init 41 = .ok (.putfield 24, 3) := by decide +kernel
theorem dX2_init_44 : decode cX2_init 44 = .ok (.aload_n 0, 1) := by decide +kernel
theorem dX2_init_45 : decode cX2_init 45 = .ok (.bipush 20, 2) := by decide +kernel
theorem dX2_init_47 : decode cX2_init 47 = .ok (.newarray .int, 2) := by decide +kernel
theorem dX2_init_49 : decode cX2_init 49 = .ok (.putfield 27, 3) := by decide +kernel
theorem dX2_init_52 : decode cX2_init 52 = .ok (.aload_n 0, 1) := by decide +kernel
theorem dX2_init_53 : decode cX2_init 53 = .ok (.bipush 20, 2) := by decide +kernel
theorem dX2_init_55 : decode cX2_init 55 = .ok (.newarray .int, 2) := by decide +kernel
theorem dX2_init_57 : decode cX2_init 57 = .ok (.putfield 30, 3) := by decide +kernel
theorem dX2_init_60 : decode cX2_init 60 = .ok (.aload_n 0, 1) := by decide +kernel
theorem dX2_init_61 : decode cX2_init 61 = .ok (.bipush 18, 2) := by decide +kernel
theorem dX2_init_63 : decode cX2_init 63 = .ok (.newarray .int, 2) := by decide +kernel
theorem dX2_init_65 : decode cX2_init 65 = .ok (.putfield 33, 3) := by decide +kernel
theorem dX2_init_68 : decode cX2_init 68 = .ok (.iconst 0, 1) := by decide +kernel
theorem dX2_init_69 : decode cX2_init 69 = .ok (.istore_n 1, 1) := by decide +kernel
theorem dX2_init_70 : decode cX2_init 70 = .ok (.iload_n 1, 1) := by decide +kernel
theorem dX2_init_71 : decode cX2_init 71 = .ok (.bipush 18, 2) := by decide +kernel
theorem dX2_init_73 : decode cX2_init 73 = .ok (.if_icmp .ge 21, 3) := by decide +kernel
theorem dX2_init_76 : decode cX2_init 76 = .ok (.aload_n 0, 1) := by decide +kernel
theorem dX2_init_77 : decode cX2_init 77 = .ok (.getfield 33, 3) := by decide +kernel
theorem dX2_init_80 : decode cX2_init 80 = .ok (.iload_n 1, 1) := by decide +kernel
theorem dX2_init_81 : decode cX2_init 81 = .ok (.iload_n 1, 1) := by decide +kernel
theorem dX2_init_82 : decode cX2_init 82 = .ok (.bipush 6, 2) := by decide +kernel
theorem dX2_init_84 : decode cX2_init 84 = .ok (.irem, 1) := by decide +kernel
theorem dX2_init_85 : decode cX2_init 85 = .ok (.iconst 4, 1) := by decide +kernel
theorem dX2_init_86 : decode cX2_init 86 = .ok (.irem, 1) := by decide +kernel
theorem dX2_init_87 : decode cX2_init 87 = .ok (.iastore, 1) := by decide +kernel
theorem dX2_init_88 : decode cX2_init 88 = .ok (.iinc 1 1, 3) := by decide +kernel
theorem dX2_init_91 : decode cX2_init 91 = .ok (.goto (-21), 3) := by decide +kernel
theorem dX2_init_94 : decode cX2_init 94 = .ok (.return_, 1) := by decide +kernel
theorem dX2_copyFrom_0 : decode cX2_copyFrom 0 = .ok (.aload_n 1, 1) := by decide +kernel
theorem dX2_copyFrom_1 : decode cX2_copyFrom 1 = .ok (.getfield 9, 3) := by decide +kernel
theorem dX2_copyFrom_4 : decode cX2_copyFrom 4 = .ok (.iconst 0, 1) := by decide +kernel
theorem dX2_copyFrom_5 : decode cX2_copyFrom 5 = .ok (.aload_n 0, 1) := by decide +kernel
theorem dX2_copyFrom_6 : decode cX2_copyFrom 6 = .ok (.getfield 9, 3) := by decide +kernel
theorem dX2_copyFrom_9 : decode cX2_copyFrom 9 = .ok (.iconst 0, 1) := by decide +kernel
theorem dX2_copyFrom_10 : decode cX2_copyFrom 10 = .ok (.bipush 20, 2) := by decide +kernel
theorem dX2_copyFrom_12 : decode cX2_copyFrom 12 = .ok (.invokestatic 36, 3) := by decide +kernel
theorem dX2_copyFrom_15 : decode cX2_copyFrom 15 = .ok (.aload_n 1, 1) := by decide +kernel
theorem dX2_copyFrom_16 : decode cX2_copyFrom 16 = .ok (.getfield 15, 3) := by decide +kernel
theorem dX2_copyFrom_19 : decode cX2_copyFrom 19 = .ok (.iconst 0, 1) := by decide +kernel
theorem dX2_copyFrom_20 : decode cX2_copyFrom 20 = .ok (.aload_n 0, 1) := by decide +kernel
theorem dX2_copyFrom_21 : decode cX2_copyFrom 21 = .ok (.getfield 15, 3) := by decide +kernel
theorem dX2_copyFrom_24 : decode cX2_copyFrom 24 = .ok (.iconst 0, 1) := by decide +kernel
theorem dX2_copyFrom_25 : decode cX2_copyFrom 25 = .ok (.bipush 20, 2) := by decide +kernel
theorem dX2_copyFrom_27 : decode cX2_copyFrom 27 = .ok (.invokestatic 36, 3) := by decide +kernel
theorem dX2_copyFrom_30 : decode cX2_copyFrom 30 = .ok (.aload_n 1, 1) := by decide +kernel
theorem dX2_copyFrom_31 : decode cX2_copyFrom 31 = .ok (.getfield 18, 3) := by decide +kernel
theorem dX2_copyFrom_34 : decode cX2_copyFrom 34 = .ok (.iconst 0, 1) := by decide +kernel
theorem dX2_copyFrom_35 : decode cX2_copyFrom 35 = .ok (.aload_n 0, 1) := by decide +kernel
theorem dX2_copyFrom_36 : decode cX2_copyFrom 36 = .ok (.getfield 18, 3) := by decide +kernel
theorem dX2_copyFrom_39 : decode cX2_copyFrom 39 = .ok (.iconst 0, 1) := by decide +kernel
theorem dX2_copyFrom_40 : decode cX2_copyFrom 40 = .ok (.bipush 20, 2) := by decide +kernel
theorem dX2_copyFrom_42 : decode cX2_copyFrom 42 = .ok (.invokestatic 36, 3) := by decide +kernel
theorem dX2_copyFrom_45 : decode cX2_copyFrom 45 = .ok (.aload_n 1, 1) := by decide +kernel
theorem dX2_copyFrom_46 : decode cX2_copyFrom 46 = .ok (.getfield 21, 3) := by decide +kernel
theorem dX2_copyFrom_49 : decode cX2_copyFrom 49 = .ok (.iconst 0, 1) := by decide +kernel
theorem dX2_copyFrom_50 : decode cX2_copyFrom 50 = .ok (.aload_n 0, 1) := by decide +kernel
theorem dX2_copyFrom_51 : decode cX2_copyFrom 51 = .ok (.getfield 21, 3) := by decide +kernel
theorem dX2_copyFrom_54 : decode cX2_copyFrom 54 = .ok (.iconst 0, 1) := by decide +kernel
theorem dX2_copyFrom_55 : decode cX2_copyFrom 55 = .ok (.bipush 20, 2) := by decide +kernel
theorem dX2_copyFrom_57 : decode cX2_copyFrom 57 = .ok (.invokestatic 36, 3) := by decide +kernel
theorem dX2_copyFrom_60 : decode cX2_copyFrom 60 = .ok (.aload_n 1, 1) := by decide +kernel
theorem dX2_copyFrom_61 : decode cX2_copyFrom 61 = .ok (.getfield 24, 3) := by decide +kernel
theorem dX2_copyFrom_64 : decode cX2_copyFrom 64 = .ok (.iconst 0, 1) := by decide +kernel
theorem dX2_copyFrom_65 : decode cX2_copyFrom 65 = .ok (.aload_n 0, 1) := by decide +kernel
theorem dX2_copyFrom_66 : decode cX2_copyFrom 66 = .ok (.getfield 24, 3) := by decide +kernel
theorem dX2_copyFrom_69 : decode cX2_copyFrom 69 = .ok (.iconst 0, 1) := by decide +kernel
theorem dX2_copyFrom_70 : decode cX2_copyFrom 70 = .ok (.bipush 20, 2) := by decide +kernel
theorem dX2_copyFrom_72 : decode cX2_copyFrom 72 = .ok (.invokestatic 36, 3) := by decide +kernel
theorem dX2_copyFrom_75 : decode cX2_copyFrom 75 = .ok (.aload_n 1, 1) := by decide +kernel
theorem dX2_copyFrom_76 : decode cX2_copyFrom 76 = .ok (.getfield 30, 3) := by decide +kernel
theorem dX2_copyFrom_79 : decode cX2_copyFrom 79 = .ok (.iconst 0, 1) := by decide +kernel
theorem dX2_copyFrom_80 : decode cX2_copyFrom 80 = .ok (.aload_n 0, 1) := by decide +kernel
theorem dX2_copyFrom_81 : decode cX2_copyFrom 81 = .ok (.getfield 30, 3) := by decide +kernel
theorem dX2_copyFrom_84 : decode cX2_copyFrom 84 = .ok (.iconst 0, 1) := by decide +kernel
theorem dX2_copyFrom_85 : decode cX2_copyFrom 85 = .ok (.bipush 20, 2) := by decide +kernel
theorem dX2_copyFrom_87 : decode cX2_copyFrom 87 = .ok (.invokestatic 36, 3) := by decide +kernel
theorem dX2_copyFrom_90 : decode cX2_copyFrom 90 = .ok (.aload_n 1, 1) := by decide +kernel
theorem dX2_copyFrom_91 : decode cX2_copyFrom 91 = .ok (.getfield 33, 3) := by decide +kernel
theorem dX2_copyFrom_94 : decode cX2_copyFrom 94 = .ok (.iconst 0, 1) := by decide +kernel
theorem dX2_copyFrom_95 : decode cX2_copyFrom 95 = .ok (.aload_n 0, 1) := by decide +kernel
theorem dX2_copyFrom_96 : decode cX2_copyFrom 96 = .ok (.getfield 33, 3) := by decide +kernel
theorem dX2_copyFrom_99 : decode cX2_copyFrom 99 = .ok (.iconst 0, 1) := by decide +kernel
theorem dX2_copyFrom_100 : decode cX2_copyFrom 100 = .ok (.bipush 18, 2) := by decide +kernel
theorem dX2_copyFrom_102 : decode cX2_copyFrom 102 = .ok (.invokestatic 36, 3) := by decide +kernel
theorem dX2_copyFrom_105 : decode cX2_copyFrom 105 = .ok (.aload_n 0, 1) := by decide +kernel
theorem dX2_copyFrom_106 : decode cX2_copyFrom 106 = .ok (.aload_n 1, 1) := by decide +kernel
theorem dX2_copyFrom_107 : decode cX2_copyFrom 107 = .ok (.getfield 42, 3) := by decide +kernel
theorem dX2_copyFrom_110 : decode cX2_copyFrom 110 = .ok (.putfield 42, 3) := by decide +kernel
theorem dX2_copyFrom_113 : decode cX2_copyFrom 113 = .ok (.aload_n 0, 1) := by decide +kernel
theorem dX2_copyFrom_114 : decode cX2_copyFrom 114 = .ok (.aload_n 1, 1) := by decide +kernel
theorem dX2_copyFrom_115 : decode cX2_copyFrom 115 = .ok (.getfield 46, 3) := by decide +kernel
theorem dX2_copyFrom_118 : decode cX2_copyFrom 118 = .ok (.putfield 46, 3) := by decide +kernel
theorem dX2_copyFrom_121 : decode cX2_copyFrom 121 = .ok (.return_, 1) := by decide +kernel
theorem dX2_enrol_0 : decode cX2_enrol 0 = .ok (.aload_n 0, 1) := by decide +kernel
theorem dX2_enrol_1 : decode cX2_enrol 1 = .ok (.getfield 42, 3) := by decide +kernel
theorem dX2_enrol_4 : decode cX2_enrol 4 = .ok (.bipush 20, 2) := by decide +kernel
theorem dX2_enrol_6 : decode cX2_enrol 6 = .ok (.if_icmp .lt 5, 3) := by decide +kernel
theorem dX2_enrol_9 : decode cX2_enrol 9 = .ok (.iconst (-1), 1) := by decide +kernel
theorem dX2_enrol_10 : decode cX2_enrol 10 = .ok (.ireturn, 1) := by decide +kernel
theorem dX2_enrol_11 : decode cX2_enrol 11 = .ok (.aload_n 0, 1) := by decide +kernel
theorem dX2_enrol_12 : decode cX2_enrol 12 = .ok (.getfield 42, 3) := by decide +kernel
theorem dX2_enrol_15 : decode cX2_enrol 15 = .ok (.istore 4, 2) := by decide +kernel
theorem dX2_enrol_17 : decode cX2_enrol 17 = .ok (.aload_n 0, 1) := by decide +kernel
theorem dX2_enrol_18 : decode cX2_enrol 18 = .ok (.getfield 9, 3) := by decide +kernel
theorem dX2_enrol_21 : decode cX2_enrol 21 = .ok (.iload 4, 2) := by decide +kernel
theorem dX2_enrol_23 : decode cX2_enrol 23 = .ok (.iload_n 1, 1) := by decide +kernel
theorem dX2_enrol_24 : decode cX2_enrol 24 = .ok (.iastore, 1) := by decide +kernel
theorem dX2_enrol_25 : decode cX2_enrol 25 = .ok (.aload_n 0, 1) := by decide +kernel
theorem dX2_enrol_26 : decode cX2_enrol 26 = .ok (.getfield 15, 3) := by decide +kernel
theorem dX2_enrol_29 : decode cX2_enrol 29 = .ok (.iload 4, 2) := by decide +kernel
theorem dX2_enrol_31 : decode cX2_enrol 31 = .ok (.iload_n 2, 1) := by decide +kernel
theorem dX2_enrol_32 : decode cX2_enrol 32 = .ok (.iastore, 1) := by decide +kernel
theorem dX2_enrol_33 : decode cX2_enrol 33 = .ok (.aload_n 0, 1) := by decide +kernel
theorem dX2_enrol_34 : decode cX2_enrol 34 = .ok (.getfield 18, 3) := by decide +kernel
theorem dX2_enrol_37 : decode cX2_enrol 37 = .ok (.iload 4, 2) := by decide +kernel
theorem dX2_enrol_39 : decode cX2_enrol 39 = .ok (.iload_n 3, 1) := by decide +kernel
theorem dX2_enrol_40 : decode cX2_enrol 40 = .ok (.iastore, 1) := by decide +kernel
theorem dX2_enrol_41 : decode cX2_enrol 41 = .ok (.aload_n 0, 1) := by decide +kernel
theorem dX2_enrol_42 : decode cX2_enrol 42 = .ok (.getfield 30, 3) := by decide +kernel
theorem dX2_enrol_45 : decode cX2_enrol 45 = .ok (.iload 4, 2) := by decide +kernel
theorem dX2_enrol_47 : decode cX2_enrol 47 = .ok (.iconst (-1), 1) := by decide +kernel
theorem dX2_enrol_48 : decode cX2_enrol 48 = .ok (.iastore, 1) := by decide +kernel
theorem dX2_enrol_49 : decode cX2_enrol 49 = .ok (.aload_n 0, 1) := by decide +kernel
theorem dX2_enrol_50 : decode cX2_enrol 50 = .ok (.dup, 1) := by decide +kernel
theorem dX2_enrol_51 : decode cX2_enrol 51 = .ok (.getfield 42, 3) := by decide +kernel
theorem dX2_enrol_54 : decode cX2_enrol 54 = .ok (.iconst 1, 1) := by decide +kernel
theorem dX2_enrol_55 : decode cX2_enrol 55 = .ok (.iadd, 1) := by decide +kernel
theorem dX2_enrol_56 : decode cX2_enrol 56 = .ok (.putfield 42, 3) := by decide +kernel
theorem dX2_enrol_59 : decode cX2_enrol 59 = .ok (.iload 4, 2) := by decide +kernel
theorem dX2_enrol_61 : decode cX2_enrol 61 = .ok (.ireturn, 1) := by decide +kernel
theorem dX2_changeVotes_0 : decode cX2_changeVotes 0 = .ok (.aload_n 0, 1) := by decide +kernel
theorem dX2_changeVotes_1 : decode cX2_changeVotes 1 = .ok (.getfield 18, 3) := by decide +kernel
theorem dX2_changeVotes_4 : decode cX2_changeVotes 4 = .ok (.iload_n 1, 1) := by decide +kernel
theorem dX2_changeVotes_5 : decode cX2_changeVotes 5 = .ok (.iconst 0, 1) := by decide +kernel
theorem dX2_changeVotes_6 : decode cX2_changeVotes 6 = .ok (.bipush 99, 2) := by decide +kernel
theorem dX2_changeVotes_8 : decode cX2_changeVotes 8 = .ok (.aload_n 0, 1) := by decide +kernel
theorem dX2_changeVotes_9 : decode cX2_changeVotes 9 = .ok (.getfield 18, 3) := by decide +kernel
theorem dX2_changeVotes_12 : decode cX2_changeVotes 12 = .ok (.iload_n 1, 1) := by decide +kernel
theorem dX2_changeVotes_13 : decode cX2_changeVotes 13 = .ok (.iaload, 1) := by decide +kernel
theorem dX2_changeVotes_14 : decode cX2_changeVotes 14 = .ok (.iload_n 2, 1) := by decide +kernel
theorem dX2_changeVotes_15 : decode cX2_changeVotes 15 = .ok (.iadd, 1) := by decide +kernel
theorem dX2_changeVotes_16 : decode cX2_changeVotes 16 = .ok (.invokestatic 49, 3) := by decide +kernel
theorem dX2_changeVotes_19 : decode cX2_changeVotes 19 = .ok (.invokestatic 55, 3) := by decide +kernel
theorem dX2_changeVotes_22 : decode cX2_changeVotes 22 = .ok (.iastore, 1) := by decide +kernel
theorem dX2_changeVotes_23 : decode cX2_changeVotes 23 = .ok (.return_, 1) := by decide +kernel
theorem dX2_ringsBell_0 : decode cX2_ringsBell 0 = .ok (.aload_n 0, 1) := by decide +kernel
theorem dX2_ringsBell_1 : decode cX2_ringsBell 1 = .ok (.getfield 30, 3) := by decide +kernel
theorem dX2_ringsBell_4 : decode cX2_ringsBell 4 = .ok (.iload_n 1, 1) := by decide +kernel
theorem dX2_ringsBell_5 : decode cX2_ringsBell 5 = .ok (.iaload, 1) := by decide +kernel
theorem dX2_ringsBell_6 : decode cX2_ringsBell 6 = .ok (.iconst (-1), 1) := by decide +kernel
theorem dX2_ringsBell_7 : decode cX2_ringsBell 7 = .ok (.if_icmp .eq 7, 3) := by decide +kernel
theorem dX2_ringsBell_10 : decode cX2_ringsBell 10 = .ok (.iconst 1, 1) := by decide +kernel
theorem dX2_ringsBell_11 : decode cX2_ringsBell 11 = .ok (.goto 4, 3) := by decide +kernel
theorem dX2_ringsBell_14 : decode cX2_ringsBell 14 = .ok (.iconst 0, 1) := by decide +kernel
theorem dX2_ringsBell_15 : decode cX2_ringsBell 15 = .ok (.ireturn, 1) := by decide +kernel
theorem dX2_bandOf_0 : decode cX2_bandOf 0 = .ok (.aload_n 0, 1) := by decide +kernel
theorem dX2_bandOf_1 : decode cX2_bandOf 1 = .ok (.iload_n 1, 1) := by decide +kernel
theorem dX2_bandOf_2 : decode cX2_bandOf 2 = .ok (.invokevirtual 58, 3) := by decide +kernel
theorem dX2_bandOf_5 : decode cX2_bandOf 5 = .ok (.ifCond .eq 15, 3) := by decide +kernel
theorem dX2_bandOf_8 : decode cX2_bandOf 8 = .ok (.aload_n 0, 1) := by decide +kernel
theorem dX2_bandOf_9 : decode cX2_bandOf 9 = .ok (.getfield 30, 3) := by decide +kernel
theorem dX2_bandOf_12 : decode cX2_bandOf 12 = .ok (.iload_n 1, 1) := by decide +kernel
theorem dX2_bandOf_13 : decode cX2_bandOf 13 = .ok (.iaload, 1) := by decide +kernel
theorem dX2_bandOf_14 : decode cX2_bandOf 14 = .ok (.bipush 6, 2) := by decide +kernel
theorem dX2_bandOf_16 : decode cX2_bandOf 16 = .ok (.idiv, 1) := by decide +kernel
theorem dX2_bandOf_17 : decode cX2_bandOf 17 = .ok (.goto 4, 3) := by decide +kernel
theorem dX2_bandOf_20 : decode cX2_bandOf 20 = .ok (.iconst (-1), 1) := by decide +kernel
theorem dX2_bandOf_21 : decode cX2_bandOf 21 = .ok (.ireturn, 1) := by decide +kernel
theorem dX2_bellOf_0 : decode cX2_bellOf 0 = .ok (.aload_n 0, 1) := by decide +kernel
theorem dX2_bellOf_1 : decode cX2_bellOf 1 = .ok (.iload_n 1, 1) := by decide +kernel
theorem dX2_bellOf_2 : decode cX2_bellOf 2 = .ok (.invokevirtual 58, 3) := by decide +kernel
theorem dX2_bellOf_5 : decode cX2_bellOf 5 = .ok (.ifCond .eq 15, 3) := by decide +kernel
theorem dX2_bellOf_8 : decode cX2_bellOf 8 = .ok (.aload_n 0, 1) := by decide +kernel
theorem dX2_bellOf_9 : decode cX2_bellOf 9 = .ok (.getfield 30, 3) := by decide +kernel
theorem dX2_bellOf_12 : decode cX2_bellOf 12 = .ok (.iload_n 1, 1) := by decide +kernel
theorem dX2_bellOf_13 : decode cX2_bellOf 13 = .ok (.iaload, 1) := by decide +kernel
theorem dX2_bellOf_14 : decode cX2_bellOf 14 = .ok (.bipush 6, 2) := by decide +kernel
theorem dX2_bellOf_16 : decode cX2_bellOf 16 = .ok (.irem, 1) := by decide +kernel
theorem dX2_bellOf_17 : decode cX2_bellOf 17 = .ok (.goto 4, 3) := by decide +kernel
theorem dX2_bellOf_20 : decode cX2_bellOf 20 = .ok (.iconst (-1), 1) := by decide +kernel
theorem dX2_bellOf_21 : decode cX2_bellOf 21 = .ok (.ireturn, 1) := by decide +kernel
theorem dX2_ringerAt_0 : decode cX2_ringerAt 0 = .ok (.iconst 0, 1) := by decide +kernel
theorem dX2_ringerAt_1 : decode cX2_ringerAt 1 = .ok (.istore_n 2, 1) := by decide +kernel
theorem dX2_ringerAt_2 : decode cX2_ringerAt 2 = .ok (.iload_n 2, 1) := by decide +kernel
theorem dX2_ringerAt_3 : decode cX2_ringerAt 3 = .ok (.aload_n 0, 1) := by decide +kernel
theorem dX2_ringerAt_4 : decode cX2_ringerAt 4 = .ok (.getfield 42, 3) := by decide +kernel
theorem dX2_ringerAt_7 : decode cX2_ringerAt 7 = .ok (.if_icmp .ge 21, 3) := by decide +kernel
theorem dX2_ringerAt_10 : decode cX2_ringerAt 10 = .ok (.aload_n 0, 1) := by decide +kernel
theorem dX2_ringerAt_11 : decode cX2_ringerAt 11 = .ok (.getfield 30, 3) := by decide +kernel
theorem dX2_ringerAt_14 : decode cX2_ringerAt 14 = .ok (.iload_n 2, 1) := by decide +kernel
theorem dX2_ringerAt_15 : decode cX2_ringerAt 15 = .ok (.iaload, 1) := by decide +kernel
theorem dX2_ringerAt_16 : decode cX2_ringerAt 16 = .ok (.iload_n 1, 1) := by decide +kernel
theorem dX2_ringerAt_17 : decode cX2_ringerAt 17 = .ok (.if_icmp .ne 5, 3) := by decide +kernel
theorem dX2_ringerAt_20 : decode cX2_ringerAt 20 = .ok (.iload_n 2, 1) := by decide +kernel
theorem dX2_ringerAt_21 : decode cX2_ringerAt 21 = .ok (.ireturn, 1) := by decide +kernel
theorem dX2_ringerAt_22 : decode cX2_ringerAt 22 = .ok (.iinc 2 1, 3) := by decide +kernel
theorem dX2_ringerAt_25 : decode cX2_ringerAt 25 = .ok (.goto (-23), 3) := by decide +kernel
theorem dX2_ringerAt_28 : decode cX2_ringerAt 28 = .ok (.iconst (-1), 1) := by decide +kernel
theorem dX2_ringerAt_29 : decode cX2_ringerAt 29 = .ok (.ireturn, 1) := by decide +kernel
theorem dX2_rankOf_0 : decode cX2_rankOf 0 = .ok (.iconst 1, 1) := by decide +kernel
theorem dX2_rankOf_1 : decode cX2_rankOf 1 = .ok (.istore_n 2, 1) := by decide +kernel
theorem dX2_rankOf_2 : decode cX2_rankOf 2 = .ok (.iconst 0, 1) := by decide +kernel
theorem dX2_rankOf_3 : decode cX2_rankOf 3 = .ok (.istore_n 3, 1) := by decide +kernel
theorem dX2_rankOf_4 : decode cX2_rankOf 4 = .ok (.iload_n 3, 1) := by decide +kernel
theorem dX2_rankOf_5 : decode cX2_rankOf 5 = .ok (.aload_n 0, 1) := by decide +kernel
theorem dX2_rankOf_6 : decode cX2_rankOf 6 = .ok (.getfield 42, 3) := by decide +kernel
theorem dX2_rankOf_9 : decode cX2_rankOf 9 = .ok (.if_icmp .ge 42, 3) := by decide +kernel
theorem dX2_rankOf_12 : decode cX2_rankOf 12 = .ok (.aload_n 0, 1) := by decide +kernel
theorem dX2_rankOf_13 : decode cX2_rankOf 13 = .ok (.getfield 9, 3) := by decide +kernel
theorem dX2_rankOf_16 : decode cX2_rankOf 16 = .ok (.iload_n 3, 1) := by decide +kernel
theorem dX2_rankOf_17 : decode cX2_rankOf 17 = .ok (.iaload, 1) := by decide +kernel
theorem dX2_rankOf_18 : decode cX2_rankOf 18 = .ok (.aload_n 0, 1) := by decide +kernel
theorem dX2_rankOf_19 : decode cX2_rankOf 19 = .ok (.getfield 9, 3) := by decide +kernel
theorem dX2_rankOf_22 : decode cX2_rankOf 22 = .ok (.iload_n 1, 1) := by decide +kernel
theorem dX2_rankOf_23 : decode cX2_rankOf 23 = .ok (.iaload, 1) := by decide +kernel
theorem dX2_rankOf_24 : decode cX2_rankOf 24 = .ok (.if_icmp .ne 21, 3) := by decide +kernel
theorem dX2_rankOf_27 : decode cX2_rankOf 27 = .ok (.aload_n 0, 1) := by decide +kernel
theorem dX2_rankOf_28 : decode cX2_rankOf 28 = .ok (.getfield 18, 3) := by decide +kernel
theorem dX2_rankOf_31 : decode cX2_rankOf 31 = .ok (.iload_n 3, 1) := by decide +kernel
theorem dX2_rankOf_32 : decode cX2_rankOf 32 = .ok (.iaload, 1) := by decide +kernel
theorem dX2_rankOf_33 : decode cX2_rankOf 33 = .ok (.aload_n 0, 1) := by decide +kernel
theorem dX2_rankOf_34 : decode cX2_rankOf 34 = .ok (.getfield 18, 3) := by decide +kernel
theorem dX2_rankOf_37 : decode cX2_rankOf 37 = .ok (.iload_n 1, 1) := by decide +kernel
theorem dX2_rankOf_38 : decode cX2_rankOf 38 = .ok (.iaload, 1) := by decide +kernel
theorem dX2_rankOf_39 : decode cX2_rankOf 39 = .ok (.if_icmp .le 6, 3) := by decide +kernel
theorem dX2_rankOf_42 : decode cX2_rankOf 42 = .ok (.iinc 2 1, 3) := by decide +kernel
theorem dX2_rankOf_45 : decode cX2_rankOf 45 = .ok (.iinc 3 1, 3) := by decide +kernel
theorem dX2_rankOf_48 : decode cX2_rankOf 48 = .ok (.goto (-44), 3) := by decide +kernel
theorem dX2_rankOf_51 : decode cX2_rankOf 51 = .ok (.iload_n 2, 1) := by decide +kernel
theorem dX2_rankOf_52 : decode cX2_rankOf 52 = .ok (.ireturn, 1) := by decide +kernel
theorem dX2_tellOfRinger_0 : decode cX2_tellOfRinger 0 = .ok (.iload_n 2, 1) := by decide +kernel
theorem dX2_tellOfRinger_1 : decode cX2_tellOfRinger 1 = .ok (.tableswitch 90 0 6 #[43, 50, 57, 64, 71, 77, 83], 43) := by decide +kernel
theorem dX2_tellOfRinger_44 : decode cX2_tellOfRinger 44 = .ok (.aload_n 0, 1) := by decide +kernel
theorem dX2_tellOfRinger_45 : decode cX2_tellOfRinger 45 = .ok (.getfield 9, 3) := by decide +kernel
theorem dX2_tellOfRinger_48 : decode cX2_tellOfRinger 48 = .ok (.iload_n 1, 1) := by decide +kernel
theorem dX2_tellOfRinger_49 : decode cX2_tellOfRinger 49 = .ok (.iaload, 1) := by decide +kernel
theorem dX2_tellOfRinger_50 : decode cX2_tellOfRinger 50 = .ok (.ireturn, 1) := by decide +kernel
theorem dX2_tellOfRinger_51 : decode cX2_tellOfRinger 51 = .ok (.aload_n 0, 1) := by decide +kernel
theorem dX2_tellOfRinger_52 : decode cX2_tellOfRinger 52 = .ok (.getfield 15, 3) := by decide +kernel
theorem dX2_tellOfRinger_55 : decode cX2_tellOfRinger 55 = .ok (.iload_n 1, 1) := by decide +kernel
theorem dX2_tellOfRinger_56 : decode cX2_tellOfRinger 56 = .ok (.iaload, 1) := by decide +kernel
theorem dX2_tellOfRinger_57 : decode cX2_tellOfRinger 57 = .ok (.ireturn, 1) := by decide +kernel
theorem dX2_tellOfRinger_58 : decode cX2_tellOfRinger 58 = .ok (.aload_n 0, 1) := by decide +kernel
theorem dX2_tellOfRinger_59 : decode cX2_tellOfRinger 59 = .ok (.getfield 18, 3) := by decide +kernel
theorem dX2_tellOfRinger_62 : decode cX2_tellOfRinger 62 = .ok (.iload_n 1, 1) := by decide +kernel
theorem dX2_tellOfRinger_63 : decode cX2_tellOfRinger 63 = .ok (.iaload, 1) := by decide +kernel
theorem dX2_tellOfRinger_64 : decode cX2_tellOfRinger 64 = .ok (.ireturn, 1) := by decide +kernel
theorem dX2_tellOfRinger_65 : decode cX2_tellOfRinger 65 = .ok (.aload_n 0, 1) := by decide +kernel
theorem dX2_tellOfRinger_66 : decode cX2_tellOfRinger 66 = .ok (.getfield 21, 3) := by decide +kernel
theorem dX2_tellOfRinger_69 : decode cX2_tellOfRinger 69 = .ok (.iload_n 1, 1) := by decide +kernel
theorem dX2_tellOfRinger_70 : decode cX2_tellOfRinger 70 = .ok (.iaload, 1) := by decide +kernel
theorem dX2_tellOfRinger_71 : decode cX2_tellOfRinger 71 = .ok (.ireturn, 1) := by decide +kernel
theorem dX2_tellOfRinger_72 : decode cX2_tellOfRinger 72 = .ok (.aload_n 0, 1) := by decide +kernel
theorem dX2_tellOfRinger_73 : decode cX2_tellOfRinger 73 = .ok (.iload_n 1, 1) := by decide +kernel
theorem dX2_tellOfRinger_74 : decode cX2_tellOfRinger 74 = .ok (.invokevirtual 62, 3) := by decide +kernel
theorem dX2_tellOfRinger_77 : decode cX2_tellOfRinger 77 = .ok (.ireturn, 1) := by decide +kernel
theorem dX2_tellOfRinger_78 : decode cX2_tellOfRinger 78 = .ok (.aload_n 0, 1) := by decide +kernel
theorem dX2_tellOfRinger_79 : decode cX2_tellOfRinger 79 = .ok (.iload_n 1, 1) := by decide +kernel
theorem dX2_tellOfRinger_80 : decode cX2_tellOfRinger 80 = .ok (.invokevirtual 66, 3) := by decide +kernel
theorem dX2_tellOfRinger_83 : decode cX2_tellOfRinger 83 = .ok (.ireturn, 1) := by decide +kernel
theorem dX2_tellOfRinger_84 : decode cX2_tellOfRinger 84 = .ok (.aload_n 0, 1) := by decide +kernel
theorem dX2_tellOfRinger_85 : decode cX2_tellOfRinger 85 = .ok (.getfield 24, 3) := by decide +kernel
theorem dX2_tellOfRinger_88 : decode cX2_tellOfRinger 88 = .ok (.iload_n 1, 1) := by decide +kernel
theorem dX2_tellOfRinger_89 : decode cX2_tellOfRinger 89 = .ok (.iaload, 1) := by decide +kernel
theorem dX2_tellOfRinger_90 : decode cX2_tellOfRinger 90 = .ok (.ireturn, 1) := by decide +kernel
theorem dX2_tellOfRinger_91 : decode cX2_tellOfRinger 91 = .ok (.aload_n 0, 1) := by decide +kernel
theorem dX2_tellOfRinger_92 : decode cX2_tellOfRinger 92 = .ok (.iload_n 1, 1) := by decide +kernel
theorem dX2_tellOfRinger_93 : decode cX2_tellOfRinger 93 = .ok (.invokevirtual 69, 3) := by decide +kernel
theorem dX2_tellOfRinger_96 : decode cX2_tellOfRinger 96 = .ok (.ireturn, 1) := by decide +kernel
theorem dX2_electBand_0 : decode cX2_electBand 0 = .ok (.iconst 0, 1) := by decide +kernel
theorem dX2_electBand_1 : decode cX2_electBand 1 = .ok (.istore_n 2, 1) := by decide +kernel
theorem dX2_electBand_2 : decode cX2_electBand 2 = .ok (.iload_n 2, 1) := by decide +kernel
theorem dX2_electBand_3 : decode cX2_electBand 3 = .ok (.aload_n 0, 1) := by decide +kernel
theorem dX2_electBand_4 : decode cX2_electBand 4 = .ok (.getfield 42, 3) := by decide +kernel
theorem dX2_electBand_7 : decode cX2_electBand 7 = .ok (.if_icmp .ge 25, 3) := by decide +kernel
theorem dX2_electBand_10 : decode cX2_electBand 10 = .ok (.aload_n 0, 1) := by decide +kernel
theorem dX2_electBand_11 : decode cX2_electBand 11 = .ok (.iload_n 2, 1) := by decide +kernel
theorem dX2_electBand_12 : decode cX2_electBand 12 = .ok (.invokevirtual 62, 3) := by decide +kernel
theorem dX2_electBand_15 : decode cX2_electBand 15 = .ok (.iload_n 1, 1) := by decide +kernel
theorem dX2_electBand_16 : decode cX2_electBand 16 = .ok (.if_icmp .ne 10, 3) := by decide +kernel
theorem dX2_electBand_19 : decode cX2_electBand 19 = .ok (.aload_n 0, 1) := by decide +kernel
theorem dX2_electBand_20 : decode cX2_electBand 20 = .ok (.getfield 30, 3) := by decide +kernel
theorem dX2_electBand_23 : decode cX2_electBand 23 = .ok (.iload_n 2, 1) := by decide +kernel
theorem dX2_electBand_24 : decode cX2_electBand 24 = .ok (.iconst (-1), 1) := by decide +kernel
theorem dX2_electBand_25 : decode cX2_electBand 25 = .ok (.iastore, 1) := by decide +kernel
theorem dX2_electBand_26 : decode cX2_electBand 26 = .ok (.iinc 2 1, 3) := by decide +kernel
theorem dX2_electBand_29 : decode cX2_electBand 29 = .ok (.goto (-27), 3) := by decide +kernel
theorem dX2_electBand_32 : decode cX2_electBand 32 = .ok (.iload_n 1, 1) := by decide +kernel
theorem dX2_electBand_33 : decode cX2_electBand 33 = .ok (.bipush 6, 2) := by decide +kernel
theorem dX2_electBand_35 : decode cX2_electBand 35 = .ok (.imul, 1) := by decide +kernel
theorem dX2_electBand_36 : decode cX2_electBand 36 = .ok (.istore_n 2, 1) := by decide +kernel
theorem dX2_electBand_37 : decode cX2_electBand 37 = .ok (.iconst 0, 1) := by decide +kernel
theorem dX2_electBand_38 : decode cX2_electBand 38 = .ok (.istore_n 3, 1) := by decide +kernel
theorem dX2_electBand_39 : decode cX2_electBand 39 = .ok (.iload_n 3, 1) := by decide +kernel
theorem dX2_electBand_40 : decode cX2_electBand 40 = .ok (.bipush 6, 2) := by decide +kernel
theorem dX2_electBand_42 : decode cX2_electBand 42 = .ok (.if_icmp .ge 16, 3) := by decide +kernel
theorem dX2_electBand_45 : decode cX2_electBand 45 = .ok (.aload_n 0, 1) := by decide +kernel
theorem dX2_electBand_46 : decode cX2_electBand 46 = .ok (.iload_n 2, 1) := by decide +kernel
theorem dX2_electBand_47 : decode cX2_electBand 47 = .ok (.iload_n 3, 1) := by decide +kernel
theorem dX2_electBand_48 : decode cX2_electBand 48 = .ok (.iadd, 1) := by decide +kernel
theorem dX2_electBand_49 : decode cX2_electBand 49 = .ok (.invokevirtual 72, 3) := by decide +kernel
theorem dX2_electBand_52 : decode cX2_electBand 52 = .ok (.iinc 3 1, 3) := by decide +kernel
theorem dX2_electBand_55 : decode cX2_electBand 55 = .ok (.goto (-16), 3) := by decide +kernel
theorem dX2_electBand_58 : decode cX2_electBand 58 = .ok (.return_, 1) := by decide +kernel
theorem dX2_electTo_0 : decode cX2_electTo 0 = .ok (.iconst (-1), 1) := by decide +kernel
theorem dX2_electTo_1 : decode cX2_electTo 1 = .ok (.istore_n 2, 1) := by decide +kernel
theorem dX2_electTo_2 : decode cX2_electTo 2 = .ok (.iconst (-1), 1) := by decide +kernel
theorem dX2_electTo_3 : decode cX2_electTo 3 = .ok (.istore_n 3, 1) := by decide +kernel
theorem dX2_electTo_4 : decode cX2_electTo 4 = .ok (.iconst 0, 1) := by decide +kernel
theorem dX2_electTo_5 : decode cX2_electTo 5 = .ok (.istore 4, 2) := by decide +kernel
theorem dX2_electTo_7 : decode cX2_electTo 7 = .ok (.iload 4, 2) := by decide +kernel
theorem dX2_electTo_9 : decode cX2_electTo 9 = .ok (.aload_n 0, 1) := by decide +kernel
theorem dX2_electTo_10 : decode cX2_electTo 10 = .ok (.getfield 42, 3) := by decide +kernel
theorem dX2_electTo_13 : decode cX2_electTo 13 = .ok (.if_icmp .ge 56, 3) := by decide +kernel
theorem dX2_electTo_16 : decode cX2_electTo 16 = .ok (.aload_n 0, 1) := by decide +kernel
theorem dX2_electTo_17 : decode cX2_electTo 17 = .ok (.iload 4, 2) := by decide +kernel
theorem dX2_electTo_19 : decode cX2_electTo 19 = .ok (.invokevirtual 58, 3) := by decide +kernel
theorem dX2_electTo_22 : decode cX2_electTo 22 = .ok (.ifCond .ne 41, 3) := by decide +kernel
theorem dX2_electTo_25 : decode cX2_electTo 25 = .ok (.aload_n 0, 1) := by decide +kernel
theorem dX2_electTo_26 : decode cX2_electTo 26 = .ok (.getfield 9, 3) := by decide +kernel
theorem dX2_electTo_29 : decode cX2_electTo 29 = .ok (.iload 4, 2) := by decide +kernel
theorem dX2_electTo_31 : decode cX2_electTo 31 = .ok (.iaload, 1) := by decide +kernel
theorem dX2_electTo_32 : decode cX2_electTo 32 = .ok (.aload_n 0, 1) := by decide +kernel
theorem dX2_electTo_33 : decode cX2_electTo 33 = .ok (.getfield 33, 3) := by decide +kernel
theorem dX2_electTo_36 : decode cX2_electTo 36 = .ok (.iload_n 1, 1) := by decide +kernel
theorem dX2_electTo_37 : decode cX2_electTo 37 = .ok (.iaload, 1) := by decide +kernel
theorem dX2_electTo_38 : decode cX2_electTo 38 = .ok (.if_icmp .ne 25, 3) := by decide +kernel
theorem dX2_electTo_41 : decode cX2_electTo 41 = .ok (.aload_n 0, 1) := by decide +kernel
theorem dX2_electTo_42 : decode cX2_electTo 42 = .ok (.getfield 18, 3) := by decide +kernel
theorem dX2_electTo_45 : decode cX2_electTo 45 = .ok (.iload 4, 2) := by decide +kernel
theorem dX2_electTo_47 : decode cX2_electTo 47 = .ok (.iaload, 1) := by decide +kernel
theorem dX2_electTo_48 : decode cX2_electTo 48 = .ok (.iload_n 3, 1) := by decide +kernel
theorem dX2_electTo_49 : decode cX2_electTo 49 = .ok (.if_icmp .le 14, 3) := by decide +kernel
theorem dX2_electTo_52 : decode cX2_electTo 52 = .ok (.aload_n 0, 1) := by decide +kernel
theorem dX2_electTo_53 : decode cX2_electTo 53 = .ok (.getfield 18, 3) := by decide +kernel
theorem dX2_electTo_56 : decode cX2_electTo 56 = .ok (.iload 4, 2) := by decide +kernel
theorem dX2_electTo_58 : decode cX2_electTo 58 = .ok (.iaload, 1) := by decide +kernel
theorem dX2_electTo_59 : decode cX2_electTo 59 = .ok (.istore_n 3, 1) := by decide +kernel
theorem dX2_electTo_60 : decode cX2_electTo 60 = .ok (.iload 4, 2) := by decide +kernel
theorem dX2_electTo_62 : decode cX2_electTo 62 = .ok (.istore_n 2, 1) := by decide +kernel
theorem dX2_electTo_63 : decode cX2_electTo 63 = .ok (.iinc 4 1, 3) := by decide +kernel
theorem dX2_electTo_66 : decode cX2_electTo 66 = .ok (.goto (-59), 3) := by decide +kernel
theorem dX2_electTo_69 : decode cX2_electTo 69 = .ok (.iload_n 2, 1) := by decide +kernel
theorem dX2_electTo_70 : decode cX2_electTo 70 = .ok (.iconst (-1), 1) := by decide +kernel
theorem dX2_electTo_71 : decode cX2_electTo 71 = .ok (.if_icmp .eq 10, 3) := by decide +kernel
theorem dX2_electTo_74 : decode cX2_electTo 74 = .ok (.aload_n 0, 1) := by decide +kernel
theorem dX2_electTo_75 : decode cX2_electTo 75 = .ok (.getfield 30, 3) := by decide +kernel
theorem dX2_electTo_78 : decode cX2_electTo 78 = .ok (.iload_n 2, 1) := by decide +kernel
theorem dX2_electTo_79 : decode cX2_electTo 79 = .ok (.iload_n 1, 1) := by decide +kernel
theorem dX2_electTo_80 : decode cX2_electTo 80 = .ok (.iastore, 1) := by decide +kernel
theorem dX2_electTo_81 : decode cX2_electTo 81 = .ok (.return_, 1) := by decide +kernel
theorem dX2_ringersIn_0 : decode cX2_ringersIn 0 = .ok (.iconst 0, 1) := by decide +kernel
theorem dX2_ringersIn_1 : decode cX2_ringersIn 1 = .ok (.istore_n 2, 1) := by decide +kernel
theorem dX2_ringersIn_2 : decode cX2_ringersIn 2 = .ok (.iconst 0, 1) := by decide +kernel
theorem dX2_ringersIn_3 : decode cX2_ringersIn 3 = .ok (.istore_n 3, 1) := by decide +kernel
theorem dX2_ringersIn_4 : decode cX2_ringersIn 4 = .ok (.iload_n 3, 1) := by decide +kernel
theorem dX2_ringersIn_5 : decode cX2_ringersIn 5 = .ok (.aload_n 0, 1) := by decide +kernel
theorem dX2_ringersIn_6 : decode cX2_ringersIn 6 = .ok (.getfield 42, 3) := by decide +kernel
theorem dX2_ringersIn_9 : decode cX2_ringersIn 9 = .ok (.if_icmp .ge 21, 3) := by decide +kernel
theorem dX2_ringersIn_12 : decode cX2_ringersIn 12 = .ok (.aload_n 0, 1) := by decide +kernel
theorem dX2_ringersIn_13 : decode cX2_ringersIn 13 = .ok (.iload_n 3, 1) := by decide +kernel
theorem dX2_ringersIn_14 : decode cX2_ringersIn 14 = .ok (.invokevirtual 62, 3) := by decide +kernel
theorem dX2_ringersIn_17 : decode cX2_ringersIn 17 = .ok (.iload_n 1, 1) := by decide +kernel
theorem dX2_ringersIn_18 : decode cX2_ringersIn 18 = .ok (.if_icmp .ne 6, 3) := by decide +kernel
theorem dX2_ringersIn_21 : decode cX2_ringersIn 21 = .ok (.iinc 2 1, 3) := by decide +kernel
theorem dX2_ringersIn_24 : decode cX2_ringersIn 24 = .ok (.iinc 3 1, 3) := by decide +kernel
theorem dX2_ringersIn_27 : decode cX2_ringersIn 27 = .ok (.goto (-23), 3) := by decide +kernel
theorem dX2_ringersIn_30 : decode cX2_ringersIn 30 = .ok (.iload_n 2, 1) := by decide +kernel
theorem dX2_ringersIn_31 : decode cX2_ringersIn 31 = .ok (.ireturn, 1) := by decide +kernel
theorem dX2_ringersAtBells_0 : decode cX2_ringersAtBells 0 = .ok (.iconst 0, 1) := by decide +kernel
theorem dX2_ringersAtBells_1 : decode cX2_ringersAtBells 1 = .ok (.istore_n 1, 1) := by decide +kernel
theorem dX2_ringersAtBells_2 : decode cX2_ringersAtBells 2 = .ok (.iconst 0, 1) := by decide +kernel
theorem dX2_ringersAtBells_3 : decode cX2_ringersAtBells 3 = .ok (.istore_n 2, 1) := by decide +kernel
theorem dX2_ringersAtBells_4 : decode cX2_ringersAtBells 4 = .ok (.iload_n 2, 1) := by decide +kernel
theorem dX2_ringersAtBells_5 : decode cX2_ringersAtBells 5 = .ok (.iconst 3, 1) := by decide +kernel
theorem dX2_ringersAtBells_6 : decode cX2_ringersAtBells 6 = .ok (.if_icmp .ge 17, 3) := by decide +kernel
theorem dX2_ringersAtBells_9 : decode cX2_ringersAtBells 9 = .ok (.iload_n 1, 1) := by decide +kernel
theorem dX2_ringersAtBells_10 : decode cX2_ringersAtBells 10 = .ok (.aload_n 0, 1) := by decide +kernel
theorem dX2_ringersAtBells_11 : decode cX2_ringersAtBells 11 = .ok (.iload_n 2, 1) := by decide +kernel
theorem dX2_ringersAtBells_12 : decode cX2_ringersAtBells 12 = .ok (.invokevirtual 76, 3) := by decide +kernel
theorem dX2_ringersAtBells_15 : decode cX2_ringersAtBells 15 = .ok (.iadd, 1) := by decide +kernel
theorem dX2_ringersAtBells_16 : decode cX2_ringersAtBells 16 = .ok (.istore_n 1, 1) := by decide +kernel
theorem dX2_ringersAtBells_17 : decode cX2_ringersAtBells 17 = .ok (.iinc 2 1, 3) := by decide +kernel
theorem dX2_ringersAtBells_20 : decode cX2_ringersAtBells 20 = .ok (.goto (-16), 3) := by decide +kernel
theorem dX2_ringersAtBells_23 : decode cX2_ringersAtBells 23 = .ok (.iload_n 1, 1) := by decide +kernel
theorem dX2_ringersAtBells_24 : decode cX2_ringersAtBells 24 = .ok (.ireturn, 1) := by decide +kernel
theorem dX2_fullBands_0 : decode cX2_fullBands 0 = .ok (.iconst 0, 1) := by decide +kernel
theorem dX2_fullBands_1 : decode cX2_fullBands 1 = .ok (.istore_n 1, 1) := by decide +kernel
theorem dX2_fullBands_2 : decode cX2_fullBands 2 = .ok (.iconst 0, 1) := by decide +kernel
theorem dX2_fullBands_3 : decode cX2_fullBands 3 = .ok (.istore_n 2, 1) := by decide +kernel
theorem dX2_fullBands_4 : decode cX2_fullBands 4 = .ok (.iload_n 2, 1) := by decide +kernel
theorem dX2_fullBands_5 : decode cX2_fullBands 5 = .ok (.iconst 3, 1) := by decide +kernel
theorem dX2_fullBands_6 : decode cX2_fullBands 6 = .ok (.if_icmp .ge 22, 3) := by decide +kernel
theorem dX2_fullBands_9 : decode cX2_fullBands 9 = .ok (.aload_n 0, 1) := by decide +kernel
theorem dX2_fullBands_10 : decode cX2_fullBands 10 = .ok (.iload_n 2, 1) := by decide +kernel
theorem dX2_fullBands_11 : decode cX2_fullBands 11 = .ok (.invokevirtual 76, 3) := by decide +kernel
theorem dX2_fullBands_14 : decode cX2_fullBands 14 = .ok (.bipush 6, 2) := by decide +kernel
theorem dX2_fullBands_16 : decode cX2_fullBands 16 = .ok (.if_icmp .ne 6, 3) := by decide +kernel
theorem dX2_fullBands_19 : decode cX2_fullBands 19 = .ok (.iinc 1 1, 3) := by decide +kernel
theorem dX2_fullBands_22 : decode cX2_fullBands 22 = .ok (.iinc 2 1, 3) := by decide +kernel
theorem dX2_fullBands_25 : decode cX2_fullBands 25 = .ok (.goto (-21), 3) := by decide +kernel
theorem dX2_fullBands_28 : decode cX2_fullBands 28 = .ok (.iload_n 1, 1) := by decide +kernel
theorem dX2_fullBands_29 : decode cX2_fullBands 29 = .ok (.ireturn, 1) := by decide +kernel
theorem dX2_skillAtBells_0 : decode cX2_skillAtBells 0 = .ok (.iconst 0, 1) := by decide +kernel
theorem dX2_skillAtBells_1 : decode cX2_skillAtBells 1 = .ok (.istore_n 1, 1) := by decide +kernel
theorem dX2_skillAtBells_2 : decode cX2_skillAtBells 2 = .ok (.iconst 0, 1) := by decide +kernel
theorem dX2_skillAtBells_3 : decode cX2_skillAtBells 3 = .ok (.istore_n 2, 1) := by decide +kernel
theorem dX2_skillAtBells_4 : decode cX2_skillAtBells 4 = .ok (.iload_n 2, 1) := by decide +kernel
theorem dX2_skillAtBells_5 : decode cX2_skillAtBells 5 = .ok (.aload_n 0, 1) := by decide +kernel
theorem dX2_skillAtBells_6 : decode cX2_skillAtBells 6 = .ok (.getfield 42, 3) := by decide +kernel
theorem dX2_skillAtBells_9 : decode cX2_skillAtBells 9 = .ok (.if_icmp .ge 26, 3) := by decide +kernel
theorem dX2_skillAtBells_12 : decode cX2_skillAtBells 12 = .ok (.aload_n 0, 1) := by decide +kernel
theorem dX2_skillAtBells_13 : decode cX2_skillAtBells 13 = .ok (.iload_n 2, 1) := by decide +kernel
theorem dX2_skillAtBells_14 : decode cX2_skillAtBells 14 = .ok (.invokevirtual 58, 3) := by decide +kernel
theorem dX2_skillAtBells_17 : decode cX2_skillAtBells 17 = .ok (.ifCond .eq 12, 3) := by decide +kernel
theorem dX2_skillAtBells_20 : decode cX2_skillAtBells 20 = .ok (.iload_n 1, 1) := by decide +kernel
theorem dX2_skillAtBells_21 : decode cX2_skillAtBells 21 = .ok (.aload_n 0, 1) := by decide +kernel
theorem dX2_skillAtBells_22 : decode cX2_skillAtBells 22 = .ok (.getfield 15, 3) := by decide +kernel
theorem dX2_skillAtBells_25 : decode cX2_skillAtBells 25 = .ok (.iload_n 2, 1) := by decide +kernel
theorem dX2_skillAtBells_26 : decode cX2_skillAtBells 26 = .ok (.iaload, 1) := by decide +kernel
theorem dX2_skillAtBells_27 : decode cX2_skillAtBells 27 = .ok (.iadd, 1) := by decide +kernel
theorem dX2_skillAtBells_28 : decode cX2_skillAtBells 28 = .ok (.istore_n 1, 1) := by decide +kernel
theorem dX2_skillAtBells_29 : decode cX2_skillAtBells 29 = .ok (.iinc 2 1, 3) := by decide +kernel
theorem dX2_skillAtBells_32 : decode cX2_skillAtBells 32 = .ok (.goto (-28), 3) := by decide +kernel
theorem dX2_skillAtBells_35 : decode cX2_skillAtBells 35 = .ok (.iload_n 1, 1) := by decide +kernel
theorem dX2_skillAtBells_36 : decode cX2_skillAtBells 36 = .ok (.ireturn, 1) := by decide +kernel
theorem dX2_allFaults_0 : decode cX2_allFaults 0 = .ok (.iconst 0, 1) := by decide +kernel
theorem dX2_allFaults_1 : decode cX2_allFaults 1 = .ok (.istore_n 1, 1) := by decide +kernel
theorem dX2_allFaults_2 : decode cX2_allFaults 2 = .ok (.iconst 0, 1) := by decide +kernel
theorem dX2_allFaults_3 : decode cX2_allFaults 3 = .ok (.istore_n 2, 1) := by decide +kernel
theorem dX2_allFaults_4 : decode cX2_allFaults 4 = .ok (.iload_n 2, 1) := by decide +kernel
theorem dX2_allFaults_5 : decode cX2_allFaults 5 = .ok (.aload_n 0, 1) := by decide +kernel
theorem dX2_allFaults_6 : decode cX2_allFaults 6 = .ok (.getfield 42, 3) := by decide +kernel
theorem dX2_allFaults_9 : decode cX2_allFaults 9 = .ok (.if_icmp .ge 18, 3) := by decide +kernel
theorem dX2_allFaults_12 : decode cX2_allFaults 12 = .ok (.iload_n 1, 1) := by decide +kernel
theorem dX2_allFaults_13 : decode cX2_allFaults 13 = .ok (.aload_n 0, 1) := by decide +kernel
theorem dX2_allFaults_14 : decode cX2_allFaults 14 = .ok (.getfield 24, 3) := by decide +kernel
theorem dX2_allFaults_17 : decode cX2_allFaults 17 = .ok (.iload_n 2, 1) := by decide +kernel
theorem dX2_allFaults_18 : decode cX2_allFaults 18 = .ok (.iaload, 1) := by decide +kernel
theorem dX2_allFaults_19 : decode cX2_allFaults 19 = .ok (.iadd, 1) := by decide +kernel
theorem dX2_allFaults_20 : decode cX2_allFaults 20 = .ok (.istore_n 1, 1) := by decide +kernel
theorem dX2_allFaults_21 : decode cX2_allFaults 21 = .ok (.iinc 2 1, 3) := by decide +kernel
theorem dX2_allFaults_24 : decode cX2_allFaults 24 = .ok (.goto (-20), 3) := by decide +kernel
theorem dX2_allFaults_27 : decode cX2_allFaults 27 = .ok (.iload_n 1, 1) := by decide +kernel
theorem dX2_allFaults_28 : decode cX2_allFaults 28 = .ok (.ireturn, 1) := by decide +kernel
theorem dX2_allVotes_0 : decode cX2_allVotes 0 = .ok (.iconst 0, 1) := by decide +kernel
theorem dX2_allVotes_1 : decode cX2_allVotes 1 = .ok (.istore_n 1, 1) := by decide +kernel
theorem dX2_allVotes_2 : decode cX2_allVotes 2 = .ok (.iconst 0, 1) := by decide +kernel
theorem dX2_allVotes_3 : decode cX2_allVotes 3 = .ok (.istore_n 2, 1) := by decide +kernel
theorem dX2_allVotes_4 : decode cX2_allVotes 4 = .ok (.iload_n 2, 1) := by decide +kernel
theorem dX2_allVotes_5 : decode cX2_allVotes 5 = .ok (.aload_n 0, 1) := by decide +kernel
theorem dX2_allVotes_6 : decode cX2_allVotes 6 = .ok (.getfield 42, 3) := by decide +kernel
theorem dX2_allVotes_9 : decode cX2_allVotes 9 = .ok (.if_icmp .ge 18, 3) := by decide +kernel
theorem dX2_allVotes_12 : decode cX2_allVotes 12 = .ok (.iload_n 1, 1) := by decide +kernel
theorem dX2_allVotes_13 : decode cX2_allVotes 13 = .ok (.aload_n 0, 1) := by decide +kernel
theorem dX2_allVotes_14 : decode cX2_allVotes 14 = .ok (.getfield 18, 3) := by decide +kernel
theorem dX2_allVotes_17 : decode cX2_allVotes 17 = .ok (.iload_n 2, 1) := by decide +kernel
theorem dX2_allVotes_18 : decode cX2_allVotes 18 = .ok (.iaload, 1) := by decide +kernel
theorem dX2_allVotes_19 : decode cX2_allVotes 19 = .ok (.iadd, 1) := by decide +kernel
theorem dX2_allVotes_20 : decode cX2_allVotes 20 = .ok (.istore_n 1, 1) := by decide +kernel
theorem dX2_allVotes_21 : decode cX2_allVotes 21 = .ok (.iinc 2 1, 3) := by decide +kernel
theorem dX2_allVotes_24 : decode cX2_allVotes 24 = .ok (.goto (-20), 3) := by decide +kernel
theorem dX2_allVotes_27 : decode cX2_allVotes 27 = .ok (.iload_n 1, 1) := by decide +kernel
theorem dX2_allVotes_28 : decode cX2_allVotes 28 = .ok (.ireturn, 1) := by decide +kernel
theorem dX2_isFresh_0 : decode cX2_isFresh 0 = .ok (.iconst 0, 1) := by decide +kernel
theorem dX2_isFresh_1 : decode cX2_isFresh 1 = .ok (.istore_n 2, 1) := by decide +kernel
theorem dX2_isFresh_2 : decode cX2_isFresh 2 = .ok (.iconst 0, 1) := by decide +kernel
theorem dX2_isFresh_3 : decode cX2_isFresh 3 = .ok (.istore_n 3, 1) := by decide +kernel
theorem dX2_isFresh_4 : decode cX2_isFresh 4 = .ok (.iload_n 3, 1) := by decide +kernel
theorem dX2_isFresh_5 : decode cX2_isFresh 5 = .ok (.aload_n 0, 1) := by decide +kernel
theorem dX2_isFresh_6 : decode cX2_isFresh 6 = .ok (.getfield 42, 3) := by decide +kernel
theorem dX2_isFresh_9 : decode cX2_isFresh 9 = .ok (.if_icmp .ge 32, 3) := by decide +kernel
theorem dX2_isFresh_12 : decode cX2_isFresh 12 = .ok (.aload_n 0, 1) := by decide +kernel
theorem dX2_isFresh_13 : decode cX2_isFresh 13 = .ok (.iload_n 3, 1) := by decide +kernel
theorem dX2_isFresh_14 : decode cX2_isFresh 14 = .ok (.invokevirtual 62, 3) := by decide +kernel
theorem dX2_isFresh_17 : decode cX2_isFresh 17 = .ok (.iload_n 1, 1) := by decide +kernel
theorem dX2_isFresh_18 : decode cX2_isFresh 18 = .ok (.if_icmp .ne 17, 3) := by decide +kernel
theorem dX2_isFresh_21 : decode cX2_isFresh 21 = .ok (.aload_n 0, 1) := by decide +kernel
theorem dX2_isFresh_22 : decode cX2_isFresh 22 = .ok (.getfield 21, 3) := by decide +kernel
theorem dX2_isFresh_25 : decode cX2_isFresh 25 = .ok (.iload_n 3, 1) := by decide +kernel
theorem dX2_isFresh_26 : decode cX2_isFresh 26 = .ok (.iaload, 1) := by decide +kernel
theorem dX2_isFresh_27 : decode cX2_isFresh 27 = .ok (.bipush 15, 2) := by decide +kernel
theorem dX2_isFresh_29 : decode cX2_isFresh 29 = .ok (.if_icmp .ge 6, 3) := by decide +kernel
theorem dX2_isFresh_32 : decode cX2_isFresh 32 = .ok (.iinc 2 1, 3) := by decide +kernel
theorem dX2_isFresh_35 : decode cX2_isFresh 35 = .ok (.iinc 3 1, 3) := by decide +kernel
theorem dX2_isFresh_38 : decode cX2_isFresh 38 = .ok (.goto (-34), 3) := by decide +kernel
theorem dX2_isFresh_41 : decode cX2_isFresh 41 = .ok (.iload_n 2, 1) := by decide +kernel
theorem dX2_isFresh_42 : decode cX2_isFresh 42 = .ok (.bipush 6, 2) := by decide +kernel
theorem dX2_isFresh_44 : decode cX2_isFresh 44 = .ok (.if_icmp .ne 7, 3) := by decide +kernel
theorem dX2_isFresh_47 : decode cX2_isFresh 47 = .ok (.iconst 1, 1) := by decide +kernel
theorem dX2_isFresh_48 : decode cX2_isFresh 48 = .ok (.goto 4, 3) := by decide +kernel
theorem dX2_isFresh_51 : decode cX2_isFresh 51 = .ok (.iconst 0, 1) := by decide +kernel
theorem dX2_isFresh_52 : decode cX2_isFresh 52 = .ok (.ireturn, 1) := by decide +kernel
theorem dX2_ringTouch_0 : decode cX2_ringTouch 0 = .ok (.aload_n 0, 1) := by decide +kernel
theorem dX2_ringTouch_1 : decode cX2_ringTouch 1 = .ok (.getfield 27, 3) := by decide +kernel
theorem dX2_ringTouch_4 : decode cX2_ringTouch 4 = .ok (.iconst 0, 1) := by decide +kernel
theorem dX2_ringTouch_5 : decode cX2_ringTouch 5 = .ok (.invokestatic 79, 3) := by decide +kernel
theorem dX2_ringTouch_8 : decode cX2_ringTouch 8 = .ok (.aload 4, 2) := by decide +kernel
theorem dX2_ringTouch_10 : decode cX2_ringTouch 10 = .ok (.invokevirtual 85, 3) := by decide +kernel
theorem dX2_ringTouch_13 : decode cX2_ringTouch 13 = .ok (.iconst 0, 1) := by decide +kernel
theorem dX2_ringTouch_14 : decode cX2_ringTouch 14 = .ok (.istore 5, 2) := by decide +kernel
theorem dX2_ringTouch_16 : decode cX2_ringTouch 16 = .ok (.iload 5, 2) := by decide +kernel
theorem dX2_ringTouch_18 : decode cX2_ringTouch 18 = .ok (.iload_n 3, 1) := by decide +kernel
theorem dX2_ringTouch_19 : decode cX2_ringTouch 19 = .ok (.if_icmp .ge 45, 3) := by decide +kernel
theorem dX2_ringTouch_22 : decode cX2_ringTouch 22 = .ok (.iconst 0, 1) := by decide +kernel
theorem dX2_ringTouch_23 : decode cX2_ringTouch 23 = .ok (.istore 6, 2) := by decide +kernel
theorem dX2_ringTouch_25 : decode cX2_ringTouch 25 = .ok (.iload 6, 2) := by decide +kernel
theorem dX2_ringTouch_27 : decode cX2_ringTouch 27 = .ok (.aload_n 2, 1) := by decide +kernel
theorem dX2_ringTouch_28 : decode cX2_ringTouch 28 = .ok (.getfield 90, 3) := by decide +kernel
theorem dX2_ringTouch_31 : decode cX2_ringTouch 31 = .ok (.if_icmp .ge 27, 3) := by decide +kernel
theorem dX2_ringTouch_34 : decode cX2_ringTouch 34 = .ok (.aload 4, 2) := by decide +kernel
theorem dX2_ringTouch_36 : decode cX2_ringTouch 36 = .ok (.aload_n 2, 1) := by decide +kernel
theorem dX2_ringTouch_37 : decode cX2_ringTouch 37 = .ok (.iload 6, 2) := by decide +kernel
theorem dX2_ringTouch_39 : decode cX2_ringTouch 39 = .ok (.invokevirtual 95, 3) := by decide +kernel
theorem dX2_ringTouch_42 : decode cX2_ringTouch 42 = .ok (.invokevirtual 98, 3) := by decide +kernel
theorem dX2_ringTouch_45 : decode cX2_ringTouch 45 = .ok (.aload_n 0, 1) := by decide +kernel
theorem dX2_ringTouch_46 : decode cX2_ringTouch 46 = .ok (.iload_n 1, 1) := by decide +kernel
theorem dX2_ringTouch_47 : decode cX2_ringTouch 47 = .ok (.aload 4, 2) := by decide +kernel
theorem dX2_ringTouch_49 : decode cX2_ringTouch 49 = .ok (.invokevirtual 101, 3) := by decide +kernel
theorem dX2_ringTouch_52 : decode cX2_ringTouch 52 = .ok (.iinc 6 1, 3) := by decide +kernel
theorem dX2_ringTouch_55 : decode cX2_ringTouch 55 = .ok (.goto (-30), 3) := by decide +kernel
theorem dX2_ringTouch_58 : decode cX2_ringTouch 58 = .ok (.iinc 5 1, 3) := by decide +kernel
theorem dX2_ringTouch_61 : decode cX2_ringTouch 61 = .ok (.goto (-45), 3) := by decide +kernel
theorem dX2_ringTouch_64 : decode cX2_ringTouch 64 = .ok (.aload 4, 2) := by decide +kernel
theorem dX2_ringTouch_66 : decode cX2_ringTouch 66 = .ok (.invokevirtual 105, 3) := by decide +kernel
theorem dX2_ringTouch_69 : decode cX2_ringTouch 69 = .ok (.istore 5, 2) := by decide +kernel
theorem dX2_ringTouch_71 : decode cX2_ringTouch 71 = .ok (.iload 5, 2) := by decide +kernel
theorem dX2_ringTouch_73 : decode cX2_ringTouch 73 = .ok (.ifCond .ne 15, 3) := by decide +kernel
theorem dX2_ringTouch_76 : decode cX2_ringTouch 76 = .ok (.aload 4, 2) := by decide +kernel
theorem dX2_ringTouch_78 : decode cX2_ringTouch 78 = .ok (.invokevirtual 109, 3) := by decide +kernel
theorem dX2_ringTouch_81 : decode cX2_ringTouch 81 = .ok (.ifCond .eq 7, 3) := by decide +kernel
theorem dX2_ringTouch_84 : decode cX2_ringTouch 84 = .ok (.iconst 1, 1) := by decide +kernel
theorem dX2_ringTouch_85 : decode cX2_ringTouch 85 = .ok (.goto 4, 3) := by decide +kernel
theorem dX2_ringTouch_88 : decode cX2_ringTouch 88 = .ok (.iconst 0, 1) := by decide +kernel
theorem dX2_ringTouch_89 : decode cX2_ringTouch 89 = .ok (.istore 6, 2) := by decide +kernel
theorem dX2_ringTouch_91 : decode cX2_ringTouch 91 = .ok (.iload 6, 2) := by decide +kernel
theorem dX2_ringTouch_93 : decode cX2_ringTouch 93 = .ok (.ifCond .eq 7, 3) := by decide +kernel
theorem dX2_ringTouch_96 : decode cX2_ringTouch 96 = .ok (.iload_n 3, 1) := by decide +kernel
theorem dX2_ringTouch_97 : decode cX2_ringTouch 97 = .ok (.goto 6, 3) := by decide +kernel
theorem dX2_ringTouch_100 : decode cX2_ringTouch 100 = .ok (.iload 5, 2) := by decide +kernel
theorem dX2_ringTouch_102 : decode cX2_ringTouch 102 = .ok (.ineg, 1) := by decide +kernel
theorem dX2_ringTouch_103 : decode cX2_ringTouch 103 = .ok (.istore 7, 2) := by decide +kernel
theorem dX2_ringTouch_105 : decode cX2_ringTouch 105 = .ok (.iconst 0, 1) := by decide +kernel
theorem dX2_ringTouch_106 : decode cX2_ringTouch 106 = .ok (.istore 8, 2) := by decide +kernel
theorem dX2_ringTouch_108 : decode cX2_ringTouch 108 = .ok (.iload 8, 2) := by decide +kernel
theorem dX2_ringTouch_110 : decode cX2_ringTouch 110 = .ok (.aload_n 0, 1) := by decide +kernel
theorem dX2_ringTouch_111 : decode cX2_ringTouch 111 = .ok (.getfield 42, 3) := by decide +kernel
theorem dX2_ringTouch_114 : decode cX2_ringTouch 114 = .ok (.if_icmp .ge 35, 3) := by decide +kernel
theorem dX2_ringTouch_117 : decode cX2_ringTouch 117 = .ok (.aload_n 0, 1) := by decide +kernel
theorem dX2_ringTouch_118 : decode cX2_ringTouch 118 = .ok (.iload 8, 2) := by decide +kernel
theorem dX2_ringTouch_120 : decode cX2_ringTouch 120 = .ok (.invokevirtual 62, 3) := by decide +kernel
theorem dX2_ringTouch_123 : decode cX2_ringTouch 123 = .ok (.iload_n 1, 1) := by decide +kernel
theorem dX2_ringTouch_124 : decode cX2_ringTouch 124 = .ok (.if_icmp .ne 19, 3) := by decide +kernel
theorem dX2_ringTouch_127 : decode cX2_ringTouch 127 = .ok (.aload_n 0, 1) := by decide +kernel
theorem dX2_ringTouch_128 : decode cX2_ringTouch 128 = .ok (.iload 8, 2) := by decide +kernel
theorem dX2_ringTouch_130 : decode cX2_ringTouch 130 = .ok (.iload 7, 2) := by decide +kernel
theorem dX2_ringTouch_132 : decode cX2_ringTouch 132 = .ok (.aload_n 0, 1) := by decide +kernel
theorem dX2_ringTouch_133 : decode cX2_ringTouch 133 = .ok (.getfield 27, 3) := by decide +kernel
theorem dX2_ringTouch_136 : decode cX2_ringTouch 136 = .ok (.iload 8, 2) := by decide +kernel
theorem dX2_ringTouch_138 : decode cX2_ringTouch 138 = .ok (.iaload, 1) := by decide +kernel
theorem dX2_ringTouch_139 : decode cX2_ringTouch 139 = .ok (.isub, 1) := by decide +kernel
theorem dX2_ringTouch_140 : decode cX2_ringTouch 140 = .ok (.invokevirtual 113, 3) := by decide +kernel
theorem dX2_ringTouch_143 : decode cX2_ringTouch 143 = .ok (.iinc 8 1, 3) := by decide +kernel
theorem dX2_ringTouch_146 : decode cX2_ringTouch 146 = .ok (.goto (-38), 3) := by decide +kernel
theorem dX2_ringTouch_149 : decode cX2_ringTouch 149 = .ok (.iload 5, 2) := by decide +kernel
theorem dX2_ringTouch_151 : decode cX2_ringTouch 151 = .ok (.ireturn, 1) := by decide +kernel
theorem dX2_tireDodgers_0 : decode cX2_tireDodgers 0 = .ok (.iconst 0, 1) := by decide +kernel
theorem dX2_tireDodgers_1 : decode cX2_tireDodgers 1 = .ok (.istore_n 3, 1) := by decide +kernel
theorem dX2_tireDodgers_2 : decode cX2_tireDodgers 2 = .ok (.iload_n 3, 1) := by decide +kernel
theorem dX2_tireDodgers_3 : decode cX2_tireDodgers 3 = .ok (.aload_n 0, 1) := by decide +kernel
theorem dX2_tireDodgers_4 : decode cX2_tireDodgers 4 = .ok (.getfield 42, 3) := by decide +kernel
theorem dX2_tireDodgers_7 : decode cX2_tireDodgers 7 = .ok (.if_icmp .ge 35, 3) := by decide +kernel
theorem dX2_tireDodgers_10 : decode cX2_tireDodgers 10 = .ok (.aload_n 0, 1) := by decide +kernel
theorem dX2_tireDodgers_11 : decode cX2_tireDodgers 11 = .ok (.iload_n 3, 1) := by decide +kernel
theorem dX2_tireDodgers_12 : decode cX2_tireDodgers 12 = .ok (.invokevirtual 62, 3) := by decide +kernel
theorem dX2_tireDodgers_15 : decode cX2_tireDodgers 15 = .ok (.iload_n 1, 1) := by decide +kernel
theorem dX2_tireDodgers_16 : decode cX2_tireDodgers 16 = .ok (.if_icmp .ne 20, 3) := by decide +kernel
theorem dX2_tireDodgers_19 : decode cX2_tireDodgers 19 = .ok (.aload_n 2, 1) := by decide +kernel
theorem dX2_tireDodgers_20 : decode cX2_tireDodgers 20 = .ok (.aload_n 0, 1) := by decide +kernel
theorem dX2_tireDodgers_21 : decode cX2_tireDodgers 21 = .ok (.iload_n 3, 1) := by decide +kernel
theorem dX2_tireDodgers_22 : decode cX2_tireDodgers 22 = .ok (.invokevirtual 66, 3) := by decide +kernel
theorem dX2_tireDodgers_25 : decode cX2_tireDodgers 25 = .ok (.invokevirtual 117, 3) := by decide +kernel
theorem dX2_tireDodgers_28 : decode cX2_tireDodgers 28 = .ok (.ifCond .eq 8, 3) := by decide +kernel
theorem dX2_tireDodgers_31 : decode cX2_tireDodgers 31 = .ok (.aload_n 0, 1) := by decide +kernel
theorem dX2_tireDodgers_32 : decode cX2_tireDodgers 32 = .ok (.iload_n 3, 1) := by decide +kernel
theorem dX2_tireDodgers_33 : decode cX2_tireDodgers 33 = .ok (.invokevirtual 120, 3) := by decide +kernel
theorem dX2_tireDodgers_36 : decode cX2_tireDodgers 36 = .ok (.iinc 3 1, 3) := by decide +kernel
theorem dX2_tireDodgers_39 : decode cX2_tireDodgers 39 = .ok (.goto (-37), 3) := by decide +kernel
theorem dX2_tireDodgers_42 : decode cX2_tireDodgers 42 = .ok (.return_, 1) := by decide +kernel
theorem dX2_tire_0 : decode cX2_tire 0 = .ok (.aload_n 0, 1) := by decide +kernel
theorem dX2_tire_1 : decode cX2_tire 1 = .ok (.getfield 21, 3) := by decide +kernel
theorem dX2_tire_4 : decode cX2_tire 4 = .ok (.iload_n 1, 1) := by decide +kernel
theorem dX2_tire_5 : decode cX2_tire 5 = .ok (.bipush 20, 2) := by decide +kernel
theorem dX2_tire_7 : decode cX2_tire 7 = .ok (.aload_n 0, 1) := by decide +kernel
theorem dX2_tire_8 : decode cX2_tire 8 = .ok (.getfield 21, 3) := by decide +kernel
theorem dX2_tire_11 : decode cX2_tire 11 = .ok (.iload_n 1, 1) := by decide +kernel
theorem dX2_tire_12 : decode cX2_tire 12 = .ok (.iaload, 1) := by decide +kernel
theorem dX2_tire_13 : decode cX2_tire 13 = .ok (.iconst 1, 1) := by decide +kernel
theorem dX2_tire_14 : decode cX2_tire 14 = .ok (.iadd, 1) := by decide +kernel
theorem dX2_tire_15 : decode cX2_tire 15 = .ok (.invokestatic 49, 3) := by decide +kernel
theorem dX2_tire_18 : decode cX2_tire 18 = .ok (.iastore, 1) := by decide +kernel
theorem dX2_tire_19 : decode cX2_tire 19 = .ok (.aload_n 0, 1) := by decide +kernel
theorem dX2_tire_20 : decode cX2_tire 20 = .ok (.getfield 21, 3) := by decide +kernel
theorem dX2_tire_23 : decode cX2_tire 23 = .ok (.iload_n 1, 1) := by decide +kernel
theorem dX2_tire_24 : decode cX2_tire 24 = .ok (.iaload, 1) := by decide +kernel
theorem dX2_tire_25 : decode cX2_tire 25 = .ok (.iconst 2, 1) := by decide +kernel
theorem dX2_tire_26 : decode cX2_tire 26 = .ok (.aload_n 0, 1) := by decide +kernel
theorem dX2_tire_27 : decode cX2_tire 27 = .ok (.getfield 15, 3) := by decide +kernel
theorem dX2_tire_30 : decode cX2_tire 30 = .ok (.iload_n 1, 1) := by decide +kernel
theorem dX2_tire_31 : decode cX2_tire 31 = .ok (.iaload, 1) := by decide +kernel
theorem dX2_tire_32 : decode cX2_tire 32 = .ok (.imul, 1) := by decide +kernel
theorem dX2_tire_33 : decode cX2_tire 33 = .ok (.if_icmp .le 23, 3) := by decide +kernel
theorem dX2_tire_36 : decode cX2_tire 36 = .ok (.aload_n 0, 1) := by decide +kernel
theorem dX2_tire_37 : decode cX2_tire 37 = .ok (.getfield 24, 3) := by decide +kernel
theorem dX2_tire_40 : decode cX2_tire 40 = .ok (.iload_n 1, 1) := by decide +kernel
theorem dX2_tire_41 : decode cX2_tire 41 = .ok (.dup2, 1) := by decide +kernel
theorem dX2_tire_42 : decode cX2_tire 42 = .ok (.iaload, 1) := by decide +kernel
theorem dX2_tire_43 : decode cX2_tire 43 = .ok (.iconst 1, 1) := by decide +kernel
theorem dX2_tire_44 : decode cX2_tire 44 = .ok (.iadd, 1) := by decide +kernel
theorem dX2_tire_45 : decode cX2_tire 45 = .ok (.iastore, 1) := by decide +kernel
theorem dX2_tire_46 : decode cX2_tire 46 = .ok (.aload_n 0, 1) := by decide +kernel
theorem dX2_tire_47 : decode cX2_tire 47 = .ok (.getfield 27, 3) := by decide +kernel
theorem dX2_tire_50 : decode cX2_tire 50 = .ok (.iload_n 1, 1) := by decide +kernel
theorem dX2_tire_51 : decode cX2_tire 51 = .ok (.dup2, 1) := by decide +kernel
theorem dX2_tire_52 : decode cX2_tire 52 = .ok (.iaload, 1) := by decide +kernel
theorem dX2_tire_53 : decode cX2_tire 53 = .ok (.iconst 1, 1) := by decide +kernel
theorem dX2_tire_54 : decode cX2_tire 54 = .ok (.iadd, 1) := by decide +kernel
theorem dX2_tire_55 : decode cX2_tire 55 = .ok (.iastore, 1) := by decide +kernel
theorem dX2_tire_56 : decode cX2_tire 56 = .ok (.return_, 1) := by decide +kernel
theorem dX2_passDays_0 : decode cX2_passDays 0 = .ok (.iconst 0, 1) := by decide +kernel
theorem dX2_passDays_1 : decode cX2_passDays 1 = .ok (.istore_n 2, 1) := by decide +kernel
theorem dX2_passDays_2 : decode cX2_passDays 2 = .ok (.iload_n 2, 1) := by decide +kernel
theorem dX2_passDays_3 : decode cX2_passDays 3 = .ok (.iload_n 1, 1) := by decide +kernel
theorem dX2_passDays_4 : decode cX2_passDays 4 = .ok (.if_icmp .ge 13, 3) := by decide +kernel
theorem dX2_passDays_7 : decode cX2_passDays 7 = .ok (.aload_n 0, 1) := by decide +kernel
theorem dX2_passDays_8 : decode cX2_passDays 8 = .ok (.invokevirtual 123, 3) := by decide +kernel
theorem dX2_passDays_11 : decode cX2_passDays 11 = .ok (.iinc 2 1, 3) := by decide +kernel
theorem dX2_passDays_14 : decode cX2_passDays 14 = .ok (.goto (-12), 3) := by decide +kernel
theorem dX2_passDays_17 : decode cX2_passDays 17 = .ok (.return_, 1) := by decide +kernel
theorem dX2_passDay_0 : decode cX2_passDay 0 = .ok (.iconst 0, 1) := by decide +kernel
theorem dX2_passDay_1 : decode cX2_passDay 1 = .ok (.istore_n 1, 1) := by decide +kernel
theorem dX2_passDay_2 : decode cX2_passDay 2 = .ok (.iload_n 1, 1) := by decide +kernel
theorem dX2_passDay_3 : decode cX2_passDay 3 = .ok (.aload_n 0, 1) := by decide +kernel
theorem dX2_passDay_4 : decode cX2_passDay 4 = .ok (.getfield 42, 3) := by decide +kernel
theorem dX2_passDay_7 : decode cX2_passDay 7 = .ok (.if_icmp .ge 41, 3) := by decide +kernel
theorem dX2_passDay_10 : decode cX2_passDay 10 = .ok (.aload_n 0, 1) := by decide +kernel
theorem dX2_passDay_11 : decode cX2_passDay 11 = .ok (.iload_n 1, 1) := by decide +kernel
theorem dX2_passDay_12 : decode cX2_passDay 12 = .ok (.invokevirtual 58, 3) := by decide +kernel
theorem dX2_passDay_15 : decode cX2_passDay 15 = .ok (.ifCond .eq 7, 3) := by decide +kernel
theorem dX2_passDay_18 : decode cX2_passDay 18 = .ok (.iconst 3, 1) := by decide +kernel
theorem dX2_passDay_19 : decode cX2_passDay 19 = .ok (.goto 4, 3) := by decide +kernel
theorem dX2_passDay_22 : decode cX2_passDay 22 = .ok (.iconst 5, 1) := by decide +kernel
theorem dX2_passDay_23 : decode cX2_passDay 23 = .ok (.istore_n 2, 1) := by decide +kernel
theorem dX2_passDay_24 : decode cX2_passDay 24 = .ok (.aload_n 0, 1) := by decide +kernel
theorem dX2_passDay_25 : decode cX2_passDay 25 = .ok (.getfield 21, 3) := by decide +kernel
theorem dX2_passDay_28 : decode cX2_passDay 28 = .ok (.iload_n 1, 1) := by decide +kernel
theorem dX2_passDay_29 : decode cX2_passDay 29 = .ok (.iconst 0, 1) := by decide +kernel
theorem dX2_passDay_30 : decode cX2_passDay 30 = .ok (.aload_n 0, 1) := by decide +kernel
theorem dX2_passDay_31 : decode cX2_passDay 31 = .ok (.getfield 21, 3) := by decide +kernel
theorem dX2_passDay_34 : decode cX2_passDay 34 = .ok (.iload_n 1, 1) := by decide +kernel
theorem dX2_passDay_35 : decode cX2_passDay 35 = .ok (.iaload, 1) := by decide +kernel
theorem dX2_passDay_36 : decode cX2_passDay 36 = .ok (.iload_n 2, 1) := by decide +kernel
theorem dX2_passDay_37 : decode cX2_passDay 37 = .ok (.isub, 1) := by decide +kernel
theorem dX2_passDay_38 : decode cX2_passDay 38 = .ok (.invokestatic 55, 3) := by decide +kernel
theorem dX2_passDay_41 : decode cX2_passDay 41 = .ok (.iastore, 1) := by decide +kernel
theorem dX2_passDay_42 : decode cX2_passDay 42 = .ok (.iinc 1 1, 3) := by decide +kernel
theorem dX2_passDay_45 : decode cX2_passDay 45 = .ok (.goto (-43), 3) := by decide +kernel
theorem dX2_passDay_48 : decode cX2_passDay 48 = .ok (.aload_n 0, 1) := by decide +kernel
theorem dX2_passDay_49 : decode cX2_passDay 49 = .ok (.getfield 46, 3) := by decide +kernel
theorem dX2_passDay_52 : decode cX2_passDay 52 = .ok (.bipush 7, 2) := by decide +kernel
theorem dX2_passDay_54 : decode cX2_passDay 54 = .ok (.irem, 1) := by decide +kernel
theorem dX2_passDay_55 : decode cX2_passDay 55 = .ok (.bipush 6, 2) := by decide +kernel
theorem dX2_passDay_57 : decode cX2_passDay 57 = .ok (.if_icmp .ne 21, 3) := by decide +kernel
theorem dX2_passDay_60 : decode cX2_passDay 60 = .ok (.iconst 0, 1) := by decide +kernel
theorem dX2_passDay_61 : decode cX2_passDay 61 = .ok (.istore_n 1, 1) := by decide +kernel
theorem dX2_passDay_62 : decode cX2_passDay 62 = .ok (.iload_n 1, 1) := by decide +kernel
theorem dX2_passDay_63 : decode cX2_passDay 63 = .ok (.iconst 3, 1) := by decide +kernel
theorem dX2_passDay_64 : decode cX2_passDay 64 = .ok (.if_icmp .ge 14, 3) := by decide +kernel
theorem dX2_passDay_67 : decode cX2_passDay 67 = .ok (.aload_n 0, 1) := by decide +kernel
theorem dX2_passDay_68 : decode cX2_passDay 68 = .ok (.iload_n 1, 1) := by decide +kernel
theorem dX2_passDay_69 : decode cX2_passDay 69 = .ok (.invokevirtual 126, 3) := by decide +kernel
theorem dX2_passDay_72 : decode cX2_passDay 72 = .ok (.iinc 1 1, 3) := by decide +kernel
theorem dX2_passDay_75 : decode cX2_passDay 75 = .ok (.goto (-13), 3) := by decide +kernel
theorem dX2_passDay_78 : decode cX2_passDay 78 = .ok (.aload_n 0, 1) := by decide +kernel
theorem dX2_passDay_79 : decode cX2_passDay 79 = .ok (.dup, 1) := by decide +kernel
theorem dX2_passDay_80 : decode cX2_passDay 80 = .ok (.getfield 46, 3) := by decide +kernel
theorem dX2_passDay_83 : decode cX2_passDay 83 = .ok (.iconst 1, 1) := by decide +kernel
theorem dX2_passDay_84 : decode cX2_passDay 84 = .ok (.iadd, 1) := by decide +kernel
theorem dX2_passDay_85 : decode cX2_passDay 85 = .ok (.putfield 46, 3) := by decide +kernel
theorem dX2_passDay_88 : decode cX2_passDay 88 = .ok (.return_, 1) := by decide +kernel
theorem dX2_seatedUnlike_0 : decode cX2_seatedUnlike 0 = .ok (.iconst 0, 1) := by decide +kernel
theorem dX2_seatedUnlike_1 : decode cX2_seatedUnlike 1 = .ok (.istore_n 2, 1) := by decide +kernel
theorem dX2_seatedUnlike_2 : decode cX2_seatedUnlike 2 = .ok (.iconst 0, 1) := by decide +kernel
theorem dX2_seatedUnlike_3 : decode cX2_seatedUnlike 3 = .ok (.istore_n 3, 1) := by decide +kernel
theorem dX2_seatedUnlike_4 : decode cX2_seatedUnlike 4 = .ok (.iload_n 3, 1) := by decide +kernel
theorem dX2_seatedUnlike_5 : decode cX2_seatedUnlike 5 = .ok (.aload_n 0, 1) := by decide +kernel
theorem dX2_seatedUnlike_6 : decode cX2_seatedUnlike 6 = .ok (.getfield 42, 3) := by decide +kernel
theorem dX2_seatedUnlike_9 : decode cX2_seatedUnlike 9 = .ok (.if_icmp .ge 27, 3) := by decide +kernel
theorem dX2_seatedUnlike_12 : decode cX2_seatedUnlike 12 = .ok (.aload_n 0, 1) := by decide +kernel
theorem dX2_seatedUnlike_13 : decode cX2_seatedUnlike 13 = .ok (.getfield 30, 3) := by decide +kernel
theorem dX2_seatedUnlike_16 : decode cX2_seatedUnlike 16 = .ok (.iload_n 3, 1) := by decide +kernel
theorem dX2_seatedUnlike_17 : decode cX2_seatedUnlike 17 = .ok (.iaload, 1) := by decide +kernel
theorem dX2_seatedUnlike_18 : decode cX2_seatedUnlike 18 = .ok (.aload_n 1, 1) := by decide +kernel
theorem dX2_seatedUnlike_19 : decode cX2_seatedUnlike 19 = .ok (.getfield 30, 3) := by decide +kernel
theorem dX2_seatedUnlike_22 : decode cX2_seatedUnlike 22 = .ok (.iload_n 3, 1) := by decide +kernel
theorem dX2_seatedUnlike_23 : decode cX2_seatedUnlike 23 = .ok (.iaload, 1) := by decide +kernel
theorem dX2_seatedUnlike_24 : decode cX2_seatedUnlike 24 = .ok (.if_icmp .eq 6, 3) := by decide +kernel
theorem dX2_seatedUnlike_27 : decode cX2_seatedUnlike 27 = .ok (.iinc 2 1, 3) := by decide +kernel
theorem dX2_seatedUnlike_30 : decode cX2_seatedUnlike 30 = .ok (.iinc 3 1, 3) := by decide +kernel
theorem dX2_seatedUnlike_33 : decode cX2_seatedUnlike 33 = .ok (.goto (-29), 3) := by decide +kernel
theorem dX2_seatedUnlike_36 : decode cX2_seatedUnlike 36 = .ok (.iload_n 2, 1) := by decide +kernel
theorem dX2_seatedUnlike_37 : decode cX2_seatedUnlike 37 = .ok (.ireturn, 1) := by decide +kernel
theorem dX3_init_0 : decode cX3_init 0 = .ok (.aload_n 0, 1) := by decide +kernel
theorem dX3_init_1 : decode cX3_init 1 = .ok (.invokespecial 3, 3) := by decide +kernel
theorem dX3_init_4 : decode cX3_init 4 = .ok (.aload_n 0, 1) := by decide +kernel
theorem dX3_init_5 : decode cX3_init 5 = .ok (.new 9, 3) := by decide +kernel
theorem dX3_init_8 : decode cX3_init 8 = .ok (.dup, 1) := by decide +kernel
theorem dX3_init_9 : decode cX3_init 9 = .ok (.invokespecial 11, 3) := by decide +kernel
theorem dX3_init_12 : decode cX3_init 12 = .ok (.putfield 12, 3) := by decide +kernel
theorem dX3_init_15 : decode cX3_init 15 = .ok (.aload_n 0, 1) := by decide +kernel
theorem dX3_init_16 : decode cX3_init 16 = .ok (.new 9, 3) := by decide +kernel
theorem dX3_init_19 : decode cX3_init 19 = .ok (.dup, 1) := by decide +kernel
theorem dX3_init_20 : decode cX3_init 20 = .ok (.invokespecial 11, 3) := by decide +kernel
theorem dX3_init_23 : decode cX3_init 23 = .ok (.putfield 16, 3) := by decide +kernel
theorem dX3_init_26 : decode cX3_init 26 = .ok (.aload_n 0, 1) := by decide +kernel
theorem dX3_init_27 : decode cX3_init 27 = .ok (.new 19, 3) := by decide +kernel
theorem dX3_init_30 : decode cX3_init 30 = .ok (.dup, 1) := by decide +kernel
theorem dX3_init_31 : decode cX3_init 31 = .ok (.invokespecial 21, 3) := by decide +kernel
theorem dX3_init_34 : decode cX3_init 34 = .ok (.putfield 22, 3) := by decide +kernel
theorem dX3_init_37 : decode cX3_init 37 = .ok (.aload_n 0, 1) := by decide +kernel
theorem dX3_init_38 : decode cX3_init 38 = .ok (.iconst 5, 1) := by decide +kernel
theorem dX3_init_39 : decode cX3_init 39 = .ok (.anewarray 26, 3) := by decide +kernel
theorem dX3_init_42 : decode cX3_init 42 = .ok (.putfield 28, 3) := by decide +kernel
theorem dX3_init_45 : decode cX3_init 45 = .ok (.iconst 0, 1) := by decide +kernel
theorem dX3_init_46 : decode cX3_init 46 = .ok (.istore_n 1, 1) := by decide +kernel
theorem dX3_init_47 : decode cX3_init 47 = .ok (.iload_n 1, 1) := by decide +kernel
theorem dX3_init_48 : decode cX3_init 48 = .ok (.iconst 5, 1) := by decide +kernel
theorem dX3_init_49 : decode cX3_init 49 = .ok (.if_icmp .ge 22, 3) := by decide +kernel
theorem dX3_init_52 : decode cX3_init 52 = .ok (.aload_n 0, 1) := by decide +kernel
theorem dX3_init_53 : decode cX3_init 53 = .ok (.getfield 28, 3) := by decide +kernel
theorem dX3_init_56 : decode cX3_init 56 = .ok (.iload_n 1, 1) := by decide +kernel
theorem dX3_init_57 : decode cX3_init 57 = .ok (.new 26, 3) := by decide +kernel
theorem dX3_init_60 : decode cX3_init 60 = .ok (.dup, 1) := by decide +kernel
theorem dX3_init_61 : decode cX3_init 61 = .ok (.invokespecial 32, 3) := by decide +kernel
theorem dX3_init_64 : decode cX3_init 64 = .ok (.aastore, 1) := by decide +kernel
theorem dX3_init_65 : decode cX3_init 65 = .ok (.iinc 1 1, 3) := by decide +kernel
theorem dX3_init_68 : decode cX3_init 68 = .ok (.goto (-21), 3) := by decide +kernel
theorem dX3_init_71 : decode cX3_init 71 = .ok (.return_, 1) := by decide +kernel
theorem dX3_ringer_0 : decode cX3_ringer 0 = .ok (.iload_n 1, 1) := by decide +kernel
theorem dX3_ringer_1 : decode cX3_ringer 1 = .ok (.iconst 4, 1) := by decide +kernel
theorem dX3_ringer_2 : decode cX3_ringer 2 = .ok (.invokestatic 33, 3) := by decide +kernel
theorem dX3_ringer_5 : decode cX3_ringer 5 = .ok (.iload_n 2, 1) := by decide +kernel
theorem dX3_ringer_6 : decode cX3_ringer 6 = .ok (.iconst 0, 1) := by decide +kernel
theorem dX3_ringer_7 : decode cX3_ringer 7 = .ok (.bipush 9, 2) := by decide +kernel
theorem dX3_ringer_9 : decode cX3_ringer 9 = .ok (.invokestatic 37, 3) := by decide +kernel
theorem dX3_ringer_12 : decode cX3_ringer 12 = .ok (.iload_n 3, 1) := by decide +kernel
theorem dX3_ringer_13 : decode cX3_ringer 13 = .ok (.iconst 0, 1) := by decide +kernel
theorem dX3_ringer_14 : decode cX3_ringer 14 = .ok (.bipush 99, 2) := by decide +kernel
theorem dX3_ringer_16 : decode cX3_ringer 16 = .ok (.invokestatic 37, 3) := by decide +kernel
theorem dX3_ringer_19 : decode cX3_ringer 19 = .ok (.aload_n 0, 1) := by decide +kernel
theorem dX3_ringer_20 : decode cX3_ringer 20 = .ok (.getfield 12, 3) := by decide +kernel
theorem dX3_ringer_23 : decode cX3_ringer 23 = .ok (.getfield 41, 3) := by decide +kernel
theorem dX3_ringer_26 : decode cX3_ringer 26 = .ok (.bipush 20, 2) := by decide +kernel
theorem dX3_ringer_28 : decode cX3_ringer 28 = .ok (.if_icmp .lt 13, 3) := by decide +kernel
theorem dX3_ringer_31 : decode cX3_ringer 31 = .ok (.new 45, 3) := by decide +kernel
theorem dX3_ringer_34 : decode cX3_ringer 34 = .ok (.dup, 1) := by decide +kernel
theorem dX3_ringer_35 : decode cX3_ringer 35 = .ok (.ldc 47, 2) := by decide +kernel
theorem dX3_ringer_37 : decode cX3_ringer 37 = .ok (.invokespecial 49, 3) := by decide +kernel
theorem dX3_ringer_40 : decode cX3_ringer 40 = .ok (.athrow, 1) := by decide +kernel
theorem dX3_ringer_41 : decode cX3_ringer 41 = .ok (.aload_n 0, 1) := by decide +kernel
theorem dX3_ringer_42 : decode cX3_ringer 42 = .ok (.getfield 12, 3) := by decide +kernel
theorem dX3_ringer_45 : decode cX3_ringer 45 = .ok (.iload_n 1, 1) := by decide +kernel
theorem dX3_ringer_46 : decode cX3_ringer 46 = .ok (.iload_n 2, 1) := by decide +kernel
theorem dX3_ringer_47 : decode cX3_ringer 47 = .ok (.iload_n 3, 1) := by decide +kernel
theorem dX3_ringer_48 : decode cX3_ringer 48 = .ok (.invokevirtual 52, 3) := by decide +kernel
theorem dX3_ringer_51 : decode cX3_ringer 51 = .ok (.ireturn, 1) := by decide +kernel
theorem dX3_vote_0 : decode cX3_vote 0 = .ok (.iload_n 1, 1) := by decide +kernel
theorem dX3_vote_1 : decode cX3_vote 1 = .ok (.aload_n 0, 1) := by decide +kernel
theorem dX3_vote_2 : decode cX3_vote 2 = .ok (.getfield 12, 3) := by decide +kernel
theorem dX3_vote_5 : decode cX3_vote 5 = .ok (.getfield 41, 3) := by decide +kernel
theorem dX3_vote_8 : decode cX3_vote 8 = .ok (.invokestatic 33, 3) := by decide +kernel
theorem dX3_vote_11 : decode cX3_vote 11 = .ok (.iload_n 2, 1) := by decide +kernel
theorem dX3_vote_12 : decode cX3_vote 12 = .ok (.bipush (-99), 2) := by decide +kernel
theorem dX3_vote_14 : decode cX3_vote 14 = .ok (.bipush 99, 2) := by decide +kernel
theorem dX3_vote_16 : decode cX3_vote 16 = .ok (.invokestatic 37, 3) := by decide +kernel
theorem dX3_vote_19 : decode cX3_vote 19 = .ok (.aload_n 0, 1) := by decide +kernel
theorem dX3_vote_20 : decode cX3_vote 20 = .ok (.getfield 12, 3) := by decide +kernel
theorem dX3_vote_23 : decode cX3_vote 23 = .ok (.iload_n 1, 1) := by decide +kernel
theorem dX3_vote_24 : decode cX3_vote 24 = .ok (.iload_n 2, 1) := by decide +kernel
theorem dX3_vote_25 : decode cX3_vote 25 = .ok (.invokevirtual 56, 3) := by decide +kernel
theorem dX3_vote_28 : decode cX3_vote 28 = .ok (.aload_n 0, 1) := by decide +kernel
theorem dX3_vote_29 : decode cX3_vote 29 = .ok (.getfield 12, 3) := by decide +kernel
theorem dX3_vote_32 : decode cX3_vote 32 = .ok (.getfield 59, 3) := by decide +kernel
theorem dX3_vote_35 : decode cX3_vote 35 = .ok (.iload_n 1, 1) := by decide +kernel
theorem dX3_vote_36 : decode cX3_vote 36 = .ok (.iaload, 1) := by decide +kernel
theorem dX3_vote_37 : decode cX3_vote 37 = .ok (.ireturn, 1) := by decide +kernel
theorem dX3_seat_0 : decode cX3_seat 0 = .ok (.iload_n 1, 1) := by decide +kernel
theorem dX3_seat_1 : decode cX3_seat 1 = .ok (.iload_n 2, 1) := by decide +kernel
theorem dX3_seat_2 : decode cX3_seat 2 = .ok (.invokestatic 63, 3) := by decide +kernel
theorem dX3_seat_5 : decode cX3_seat 5 = .ok (.iload_n 3, 1) := by decide +kernel
theorem dX3_seat_6 : decode cX3_seat 6 = .ok (.iconst 4, 1) := by decide +kernel
theorem dX3_seat_7 : decode cX3_seat 7 = .ok (.invokestatic 33, 3) := by decide +kernel
theorem dX3_seat_10 : decode cX3_seat 10 = .ok (.iload_n 1, 1) := by decide +kernel
theorem dX3_seat_11 : decode cX3_seat 11 = .ok (.iload_n 2, 1) := by decide +kernel
theorem dX3_seat_12 : decode cX3_seat 12 = .ok (.invokestatic 66, 3) := by decide +kernel
theorem dX3_seat_15 : decode cX3_seat 15 = .ok (.istore 4, 2) := by decide +kernel
theorem dX3_seat_17 : decode cX3_seat 17 = .ok (.aload_n 0, 1) := by decide +kernel
theorem dX3_seat_18 : decode cX3_seat 18 = .ok (.getfield 12, 3) := by decide +kernel
theorem dX3_seat_21 : decode cX3_seat 21 = .ok (.getfield 70, 3) := by decide +kernel
theorem dX3_seat_24 : decode cX3_seat 24 = .ok (.iload 4, 2) := by decide +kernel
theorem dX3_seat_26 : decode cX3_seat 26 = .ok (.iaload, 1) := by decide +kernel
theorem dX3_seat_27 : decode cX3_seat 27 = .ok (.istore 5, 2) := by decide +kernel
theorem dX3_seat_29 : decode cX3_seat 29 = .ok (.aload_n 0, 1) := by decide +kernel
theorem dX3_seat_30 : decode cX3_seat 30 = .ok (.getfield 12, 3) := by decide +kernel
theorem dX3_seat_33 : decode cX3_seat 33 = .ok (.getfield 70, 3) := by decide +kernel
theorem dX3_seat_36 : decode cX3_seat 36 = .ok (.iload 4, 2) := by decide +kernel
theorem dX3_seat_38 : decode cX3_seat 38 = .ok (.iload_n 3, 1) := by decide +kernel
theorem dX3_seat_39 : decode cX3_seat 39 = .ok (.iastore, 1) := by decide +kernel
theorem dX3_seat_40 : decode cX3_seat 40 = .ok (.iload 5, 2) := by decide +kernel
theorem dX3_seat_42 : decode cX3_seat 42 = .ok (.ireturn, 1) := by decide +kernel
theorem dX3_elect_0 : decode cX3_elect 0 = .ok (.iload_n 1, 1) := by decide +kernel
theorem dX3_elect_1 : decode cX3_elect 1 = .ok (.iconst 3, 1) := by decide +kernel
theorem dX3_elect_2 : decode cX3_elect 2 = .ok (.invokestatic 33, 3) := by decide +kernel
theorem dX3_elect_5 : decode cX3_elect 5 = .ok (.aload_n 0, 1) := by decide +kernel
theorem dX3_elect_6 : decode cX3_elect 6 = .ok (.getfield 12, 3) := by decide +kernel
theorem dX3_elect_9 : decode cX3_elect 9 = .ok (.iload_n 1, 1) := by decide +kernel
theorem dX3_elect_10 : decode cX3_elect 10 = .ok (.invokevirtual 73, 3) := by decide +kernel
theorem dX3_elect_13 : decode cX3_elect 13 = .ok (.aload_n 0, 1) := by decide +kernel
theorem dX3_elect_14 : decode cX3_elect 14 = .ok (.getfield 12, 3) := by decide +kernel
theorem dX3_elect_17 : decode cX3_elect 17 = .ok (.iload_n 1, 1) := by decide +kernel
theorem dX3_elect_18 : decode cX3_elect 18 = .ok (.invokevirtual 77, 3) := by decide +kernel
theorem dX3_elect_21 : decode cX3_elect 21 = .ok (.ireturn, 1) := by decide +kernel
theorem dX3_put_0 : decode cX3_put 0 = .ok (.iload_n 1, 1) := by decide +kernel
theorem dX3_put_1 : decode cX3_put 1 = .ok (.iload_n 2, 1) := by decide +kernel
theorem dX3_put_2 : decode cX3_put 2 = .ok (.invokestatic 63, 3) := by decide +kernel
theorem dX3_put_5 : decode cX3_put 5 = .ok (.iload_n 3, 1) := by decide +kernel
theorem dX3_put_6 : decode cX3_put 6 = .ok (.aload_n 0, 1) := by decide +kernel
theorem dX3_put_7 : decode cX3_put 7 = .ok (.getfield 12, 3) := by decide +kernel
theorem dX3_put_10 : decode cX3_put 10 = .ok (.getfield 41, 3) := by decide +kernel
theorem dX3_put_13 : decode cX3_put 13 = .ok (.invokestatic 33, 3) := by decide +kernel
theorem dX3_put_16 : decode cX3_put 16 = .ok (.iload_n 1, 1) := by decide +kernel
theorem dX3_put_17 : decode cX3_put 17 = .ok (.iload_n 2, 1) := by decide +kernel
theorem dX3_put_18 : decode cX3_put 18 = .ok (.invokestatic 66, 3) := by decide +kernel
theorem dX3_put_21 : decode cX3_put 21 = .ok (.istore 4, 2) := by decide +kernel
theorem dX3_put_23 : decode cX3_put 23 = .ok (.aload_n 0, 1) := by decide +kernel
theorem dX3_put_24 : decode cX3_put 24 = .ok (.getfield 12, 3) := by decide +kernel
theorem dX3_put_27 : decode cX3_put 27 = .ok (.iload 4, 2) := by decide +kernel
theorem dX3_put_29 : decode cX3_put 29 = .ok (.invokevirtual 81, 3) := by decide +kernel
theorem dX3_put_32 : decode cX3_put 32 = .ok (.iconst (-1), 1) := by decide +kernel
theorem dX3_put_33 : decode cX3_put 33 = .ok (.if_icmp .eq 13, 3) := by decide +kernel
theorem dX3_put_36 : decode cX3_put 36 = .ok (.new 45, 3) := by decide +kernel
theorem dX3_put_39 : decode cX3_put 39 = .ok (.dup, 1) := by decide +kernel
theorem dX3_put_40 : decode cX3_put 40 = .ok (.ldc 84, 2) := by decide +kernel
theorem dX3_put_42 : decode cX3_put 42 = .ok (.invokespecial 49, 3) := by decide +kernel
theorem dX3_put_45 : decode cX3_put 45 = .ok (.athrow, 1) := by decide +kernel
theorem dX3_put_46 : decode cX3_put 46 = .ok (.aload_n 0, 1) := by decide +kernel
theorem dX3_put_47 : decode cX3_put 47 = .ok (.getfield 12, 3) := by decide +kernel
theorem dX3_put_50 : decode cX3_put 50 = .ok (.iload_n 3, 1) := by decide +kernel
theorem dX3_put_51 : decode cX3_put 51 = .ok (.invokevirtual 86, 3) := by decide +kernel
theorem dX3_put_54 : decode cX3_put 54 = .ok (.ifCond .eq 13, 3) := by decide +kernel
theorem dX3_put_57 : decode cX3_put 57 = .ok (.new 45, 3) := by decide +kernel
theorem dX3_put_60 : decode cX3_put 60 = .ok (.dup, 1) := by decide +kernel
theorem dX3_put_61 : decode cX3_put 61 = .ok (.ldc 90, 2) := by decide +kernel
theorem dX3_put_63 : decode cX3_put 63 = .ok (.invokespecial 49, 3) := by decide +kernel
theorem dX3_put_66 : decode cX3_put 66 = .ok (.athrow, 1) := by decide +kernel
theorem dX3_put_67 : decode cX3_put 67 = .ok (.aload_n 0, 1) := by decide +kernel
theorem dX3_put_68 : decode cX3_put 68 = .ok (.getfield 12, 3) := by decide +kernel
theorem dX3_put_71 : decode cX3_put 71 = .ok (.getfield 92, 3) := by decide +kernel
theorem dX3_put_74 : decode cX3_put 74 = .ok (.iload_n 3, 1) := by decide +kernel
theorem dX3_put_75 : decode cX3_put 75 = .ok (.iload 4, 2) := by decide +kernel
theorem dX3_put_77 : decode cX3_put 77 = .ok (.iastore, 1) := by decide +kernel
theorem dX3_put_78 : decode cX3_put 78 = .ok (.aload_n 0, 1) := by decide +kernel
theorem dX3_put_79 : decode cX3_put 79 = .ok (.getfield 12, 3) := by decide +kernel
theorem dX3_put_82 : decode cX3_put 82 = .ok (.getfield 70, 3) := by decide +kernel
theorem dX3_put_85 : decode cX3_put 85 = .ok (.iload 4, 2) := by decide +kernel
theorem dX3_put_87 : decode cX3_put 87 = .ok (.iaload, 1) := by decide +kernel
theorem dX3_put_88 : decode cX3_put 88 = .ok (.ireturn, 1) := by decide +kernel
theorem dX3_leave_0 : decode cX3_leave 0 = .ok (.iload_n 1, 1) := by decide +kernel
theorem dX3_leave_1 : decode cX3_leave 1 = .ok (.aload_n 0, 1) := by decide +kernel
theorem dX3_leave_2 : decode cX3_leave 2 = .ok (.getfield 12, 3) := by decide +kernel
theorem dX3_leave_5 : decode cX3_leave 5 = .ok (.getfield 41, 3) := by decide +kernel
theorem dX3_leave_8 : decode cX3_leave 8 = .ok (.invokestatic 33, 3) := by decide +kernel
theorem dX3_leave_11 : decode cX3_leave 11 = .ok (.aload_n 0, 1) := by decide +kernel
theorem dX3_leave_12 : decode cX3_leave 12 = .ok (.getfield 12, 3) := by decide +kernel
theorem dX3_leave_15 : decode cX3_leave 15 = .ok (.iload_n 1, 1) := by decide +kernel
theorem dX3_leave_16 : decode cX3_leave 16 = .ok (.invokevirtual 86, 3) := by decide +kernel
theorem dX3_leave_19 : decode cX3_leave 19 = .ok (.ifCond .ne 13, 3) := by decide +kernel
end
section
theorem dX3_leave_22 : decode cX3_leave 22 = .ok (.new 45, 3) := by decide +kernel
theorem dX3_leave_25 : decode cX3_leave 25 = .ok (.dup, 1) := by decide +kernel
theorem dX3_leave_26 : decode cX3_leave 26 = .ok (.ldc 95, 2) := by decide +kernel
theorem dX3_leave_28 : decode cX3_leave 28 = .ok (.invokespecial 49, 3) := by decide +kernel
theorem dX3_leave_31 : decode cX3_leave 31 = .ok (.athrow, 1) := by decide +kernel
theorem dX3_leave_32 : decode cX3_leave 32 = .ok (.bipush 10, 2) := by decide +kernel
theorem dX3_leave_34 : decode cX3_leave 34 = .ok (.aload_n 0, 1) := by decide +kernel
theorem dX3_leave_35 : decode cX3_leave 35 = .ok (.getfield 12, 3) := by decide +kernel
theorem dX3_leave_38 : decode cX3_leave 38 = .ok (.iload_n 1, 1) := by decide +kernel
theorem dX3_leave_39 : decode cX3_leave 39 = .ok (.invokevirtual 97, 3) := by decide +kernel
theorem dX3_leave_42 : decode cX3_leave 42 = .ok (.imul, 1) := by decide +kernel
theorem dX3_leave_43 : decode cX3_leave 43 = .ok (.aload_n 0, 1) := by decide +kernel
theorem dX3_leave_44 : decode cX3_leave 44 = .ok (.getfield 12, 3) := by decide +kernel
theorem dX3_leave_47 : decode cX3_leave 47 = .ok (.iload_n 1, 1) := by decide +kernel
theorem dX3_leave_48 : decode cX3_leave 48 = .ok (.invokevirtual 100, 3) := by decide +kernel
theorem dX3_leave_51 : decode cX3_leave 51 = .ok (.iadd, 1) := by decide +kernel
theorem dX3_leave_52 : decode cX3_leave 52 = .ok (.istore_n 2, 1) := by decide +kernel
theorem dX3_leave_53 : decode cX3_leave 53 = .ok (.aload_n 0, 1) := by decide +kernel
theorem dX3_leave_54 : decode cX3_leave 54 = .ok (.getfield 12, 3) := by decide +kernel
theorem dX3_leave_57 : decode cX3_leave 57 = .ok (.getfield 92, 3) := by decide +kernel
theorem dX3_leave_60 : decode cX3_leave 60 = .ok (.iload_n 1, 1) := by decide +kernel
theorem dX3_leave_61 : decode cX3_leave 61 = .ok (.iconst (-1), 1) := by decide +kernel
theorem dX3_leave_62 : decode cX3_leave 62 = .ok (.iastore, 1) := by decide +kernel
theorem dX3_leave_63 : decode cX3_leave 63 = .ok (.iload_n 2, 1) := by decide +kernel
theorem dX3_leave_64 : decode cX3_leave 64 = .ok (.ireturn, 1) := by decide +kernel
theorem dX3_told_0 : decode cX3_told 0 = .ok (.iload_n 1, 1) := by decide +kernel
theorem dX3_told_1 : decode cX3_told 1 = .ok (.aload_n 0, 1) := by decide +kernel
theorem dX3_told_2 : decode cX3_told 2 = .ok (.getfield 12, 3) := by decide +kernel
theorem dX3_told_5 : decode cX3_told 5 = .ok (.getfield 41, 3) := by decide +kernel
theorem dX3_told_8 : decode cX3_told 8 = .ok (.invokestatic 33, 3) := by decide +kernel
theorem dX3_told_11 : decode cX3_told 11 = .ok (.iload_n 2, 1) := by decide +kernel
theorem dX3_told_12 : decode cX3_told 12 = .ok (.bipush 8, 2) := by decide +kernel
theorem dX3_told_14 : decode cX3_told 14 = .ok (.invokestatic 33, 3) := by decide +kernel
theorem dX3_told_17 : decode cX3_told 17 = .ok (.aload_n 0, 1) := by decide +kernel
theorem dX3_told_18 : decode cX3_told 18 = .ok (.getfield 12, 3) := by decide +kernel
theorem dX3_told_21 : decode cX3_told 21 = .ok (.iload_n 1, 1) := by decide +kernel
theorem dX3_told_22 : decode cX3_told 22 = .ok (.iload_n 2, 1) := by decide +kernel
theorem dX3_told_23 : decode cX3_told 23 = .ok (.invokevirtual 103, 3) := by decide +kernel
theorem dX3_told_26 : decode cX3_told 26 = .ok (.ireturn, 1) := by decide +kernel
theorem dX3_bell_0 : decode cX3_bell 0 = .ok (.iload_n 1, 1) := by decide +kernel
theorem dX3_bell_1 : decode cX3_bell 1 = .ok (.iload_n 2, 1) := by decide +kernel
theorem dX3_bell_2 : decode cX3_bell 2 = .ok (.invokestatic 63, 3) := by decide +kernel
theorem dX3_bell_5 : decode cX3_bell 5 = .ok (.iload_n 3, 1) := by decide +kernel
theorem dX3_bell_6 : decode cX3_bell 6 = .ok (.iconst 3, 1) := by decide +kernel
theorem dX3_bell_7 : decode cX3_bell 7 = .ok (.invokestatic 33, 3) := by decide +kernel
theorem dX3_bell_10 : decode cX3_bell 10 = .ok (.iload_n 1, 1) := by decide +kernel
theorem dX3_bell_11 : decode cX3_bell 11 = .ok (.iload_n 2, 1) := by decide +kernel
theorem dX3_bell_12 : decode cX3_bell 12 = .ok (.invokestatic 66, 3) := by decide +kernel
theorem dX3_bell_15 : decode cX3_bell 15 = .ok (.istore 4, 2) := by decide +kernel
theorem dX3_bell_17 : decode cX3_bell 17 = .ok (.iload_n 3, 1) := by decide +kernel
theorem dX3_bell_18 : decode cX3_bell 18 = .ok (.ifCond .ne 14, 3) := by decide +kernel
theorem dX3_bell_21 : decode cX3_bell 21 = .ok (.aload_n 0, 1) := by decide +kernel
theorem dX3_bell_22 : decode cX3_bell 22 = .ok (.getfield 12, 3) := by decide +kernel
theorem dX3_bell_25 : decode cX3_bell 25 = .ok (.getfield 70, 3) := by decide +kernel
theorem dX3_bell_28 : decode cX3_bell 28 = .ok (.iload 4, 2) := by decide +kernel
theorem dX3_bell_30 : decode cX3_bell 30 = .ok (.iaload, 1) := by decide +kernel
theorem dX3_bell_31 : decode cX3_bell 31 = .ok (.ireturn, 1) := by decide +kernel
theorem dX3_bell_32 : decode cX3_bell 32 = .ok (.iload_n 3, 1) := by decide +kernel
theorem dX3_bell_33 : decode cX3_bell 33 = .ok (.iconst 2, 1) := by decide +kernel
theorem dX3_bell_34 : decode cX3_bell 34 = .ok (.if_icmp .ge 13, 3) := by decide +kernel
theorem dX3_bell_37 : decode cX3_bell 37 = .ok (.aload_n 0, 1) := by decide +kernel
theorem dX3_bell_38 : decode cX3_bell 38 = .ok (.getfield 12, 3) := by decide +kernel
theorem dX3_bell_41 : decode cX3_bell 41 = .ok (.iload 4, 2) := by decide +kernel
theorem dX3_bell_43 : decode cX3_bell 43 = .ok (.invokevirtual 81, 3) := by decide +kernel
theorem dX3_bell_46 : decode cX3_bell 46 = .ok (.ireturn, 1) := by decide +kernel
theorem dX3_bell_47 : decode cX3_bell 47 = .ok (.aload_n 0, 1) := by decide +kernel
theorem dX3_bell_48 : decode cX3_bell 48 = .ok (.getfield 16, 3) := by decide +kernel
theorem dX3_bell_51 : decode cX3_bell 51 = .ok (.aload_n 0, 1) := by decide +kernel
theorem dX3_bell_52 : decode cX3_bell 52 = .ok (.getfield 12, 3) := by decide +kernel
theorem dX3_bell_55 : decode cX3_bell 55 = .ok (.invokevirtual 106, 3) := by decide +kernel
theorem dX3_bell_58 : decode cX3_bell 58 = .ok (.aload_n 0, 1) := by decide +kernel
theorem dX3_bell_59 : decode cX3_bell 59 = .ok (.getfield 16, 3) := by decide +kernel
theorem dX3_bell_62 : decode cX3_bell 62 = .ok (.iload_n 1, 1) := by decide +kernel
theorem dX3_bell_63 : decode cX3_bell 63 = .ok (.invokevirtual 73, 3) := by decide +kernel
theorem dX3_bell_66 : decode cX3_bell 66 = .ok (.aload_n 0, 1) := by decide +kernel
theorem dX3_bell_67 : decode cX3_bell 67 = .ok (.getfield 16, 3) := by decide +kernel
theorem dX3_bell_70 : decode cX3_bell 70 = .ok (.iload 4, 2) := by decide +kernel
theorem dX3_bell_72 : decode cX3_bell 72 = .ok (.invokevirtual 81, 3) := by decide +kernel
theorem dX3_bell_75 : decode cX3_bell 75 = .ok (.ireturn, 1) := by decide +kernel
theorem dX3_method_0 : decode cX3_method 0 = .ok (.aload_n 0, 1) := by decide +kernel
theorem dX3_method_1 : decode cX3_method 1 = .ok (.getfield 110, 3) := by decide +kernel
theorem dX3_method_4 : decode cX3_method 4 = .ok (.iconst 5, 1) := by decide +kernel
theorem dX3_method_5 : decode cX3_method 5 = .ok (.if_icmp .lt 13, 3) := by decide +kernel
theorem dX3_method_8 : decode cX3_method 8 = .ok (.new 45, 3) := by decide +kernel
theorem dX3_method_11 : decode cX3_method 11 = .ok (.dup, 1) := by decide +kernel
theorem dX3_method_12 : decode cX3_method 12 = .ok (.ldc 113, 2) := by decide +kernel
theorem dX3_method_14 : decode cX3_method 14 = .ok (.invokespecial 49, 3) := by decide +kernel
theorem dX3_method_17 : decode cX3_method 17 = .ok (.athrow, 1) := by decide +kernel
theorem dX3_method_18 : decode cX3_method 18 = .ok (.aload_n 0, 1) := by decide +kernel
theorem dX3_method_19 : decode cX3_method 19 = .ok (.dup, 1) := by decide +kernel
theorem dX3_method_20 : decode cX3_method 20 = .ok (.getfield 110, 3) := by decide +kernel
theorem dX3_method_23 : decode cX3_method 23 = .ok (.iconst 1, 1) := by decide +kernel
theorem dX3_method_24 : decode cX3_method 24 = .ok (.iadd, 1) := by decide +kernel
theorem dX3_method_25 : decode cX3_method 25 = .ok (.putfield 110, 3) := by decide +kernel
theorem dX3_method_28 : decode cX3_method 28 = .ok (.aload_n 0, 1) := by decide +kernel
theorem dX3_method_29 : decode cX3_method 29 = .ok (.getfield 110, 3) := by decide +kernel
theorem dX3_method_32 : decode cX3_method 32 = .ok (.iconst 1, 1) := by decide +kernel
theorem dX3_method_33 : decode cX3_method 33 = .ok (.isub, 1) := by decide +kernel
theorem dX3_method_34 : decode cX3_method 34 = .ok (.ireturn, 1) := by decide +kernel
theorem dX3_add_0 : decode cX3_add 0 = .ok (.aload_n 0, 1) := by decide +kernel
theorem dX3_add_1 : decode cX3_add 1 = .ok (.iload_n 1, 1) := by decide +kernel
theorem dX3_add_2 : decode cX3_add 2 = .ok (.invokevirtual 115, 3) := by decide +kernel
theorem dX3_add_5 : decode cX3_add 5 = .ok (.astore_n 3, 1) := by decide +kernel
theorem dX3_add_6 : decode cX3_add 6 = .ok (.iload_n 2, 1) := by decide +kernel
theorem dX3_add_7 : decode cX3_add 7 = .ok (.iconst 0, 1) := by decide +kernel
theorem dX3_add_8 : decode cX3_add 8 = .ok (.bipush 31, 2) := by decide +kernel
theorem dX3_add_10 : decode cX3_add 10 = .ok (.invokestatic 37, 3) := by decide +kernel
theorem dX3_add_13 : decode cX3_add 13 = .ok (.iload_n 2, 1) := by decide +kernel
theorem dX3_add_14 : decode cX3_add 14 = .ok (.iload_n 2, 1) := by decide +kernel
theorem dX3_add_15 : decode cX3_add 15 = .ok (.iconst 1, 1) := by decide +kernel
theorem dX3_add_16 : decode cX3_add 16 = .ok (.ishr, 1) := by decide +kernel
theorem dX3_add_17 : decode cX3_add 17 = .ok (.iand, 1) := by decide +kernel
theorem dX3_add_18 : decode cX3_add 18 = .ok (.ifCond .eq 13, 3) := by decide +kernel
theorem dX3_add_21 : decode cX3_add 21 = .ok (.new 119, 3) := by decide +kernel
theorem dX3_add_24 : decode cX3_add 24 = .ok (.dup, 1) := by decide +kernel
theorem dX3_add_25 : decode cX3_add 25 = .ok (.ldc 121, 2) := by decide +kernel
theorem dX3_add_27 : decode cX3_add 27 = .ok (.invokespecial 123, 3) := by decide +kernel
theorem dX3_add_30 : decode cX3_add 30 = .ok (.athrow, 1) := by decide +kernel
theorem dX3_add_31 : decode cX3_add 31 = .ok (.aload_n 3, 1) := by decide +kernel
theorem dX3_add_32 : decode cX3_add 32 = .ok (.getfield 124, 3) := by decide +kernel
theorem dX3_add_35 : decode cX3_add 35 = .ok (.bipush 12, 2) := by decide +kernel
theorem dX3_add_37 : decode cX3_add 37 = .ok (.if_icmp .lt 13, 3) := by decide +kernel
theorem dX3_add_40 : decode cX3_add 40 = .ok (.new 45, 3) := by decide +kernel
theorem dX3_add_43 : decode cX3_add 43 = .ok (.dup, 1) := by decide +kernel
theorem dX3_add_44 : decode cX3_add 44 = .ok (.ldc 127, 2) := by decide +kernel
theorem dX3_add_46 : decode cX3_add 46 = .ok (.invokespecial 49, 3) := by decide +kernel
theorem dX3_add_49 : decode cX3_add 49 = .ok (.athrow, 1) := by decide +kernel
theorem dX3_add_50 : decode cX3_add 50 = .ok (.aload_n 3, 1) := by decide +kernel
theorem dX3_add_51 : decode cX3_add 51 = .ok (.iload_n 2, 1) := by decide +kernel
theorem dX3_add_52 : decode cX3_add 52 = .ok (.invokevirtual 129, 3) := by decide +kernel
theorem dX3_add_55 : decode cX3_add 55 = .ok (.aload_n 3, 1) := by decide +kernel
theorem dX3_add_56 : decode cX3_add 56 = .ok (.aload_n 0, 1) := by decide +kernel
theorem dX3_add_57 : decode cX3_add 57 = .ok (.getfield 22, 3) := by decide +kernel
theorem dX3_add_60 : decode cX3_add 60 = .ok (.invokevirtual 132, 3) := by decide +kernel
theorem dX3_add_63 : decode cX3_add 63 = .ok (.aload_n 3, 1) := by decide +kernel
theorem dX3_add_64 : decode cX3_add 64 = .ok (.getfield 124, 3) := by decide +kernel
theorem dX3_add_67 : decode cX3_add 67 = .ok (.ireturn, 1) := by decide +kernel
theorem dX3_about_0 : decode cX3_about 0 = .ok (.aload_n 0, 1) := by decide +kernel
theorem dX3_about_1 : decode cX3_about 1 = .ok (.iload_n 1, 1) := by decide +kernel
theorem dX3_about_2 : decode cX3_about 2 = .ok (.invokevirtual 115, 3) := by decide +kernel
theorem dX3_about_5 : decode cX3_about 5 = .ok (.astore_n 3, 1) := by decide +kernel
theorem dX3_about_6 : decode cX3_about 6 = .ok (.iload_n 2, 1) := by decide +kernel
theorem dX3_about_7 : decode cX3_about 7 = .ok (.bipush 6, 2) := by decide +kernel
theorem dX3_about_9 : decode cX3_about 9 = .ok (.invokestatic 33, 3) := by decide +kernel
theorem dX3_about_12 : decode cX3_about 12 = .ok (.aload_n 3, 1) := by decide +kernel
theorem dX3_about_13 : decode cX3_about 13 = .ok (.iload_n 2, 1) := by decide +kernel
theorem dX3_about_14 : decode cX3_about 14 = .ok (.invokevirtual 136, 3) := by decide +kernel
theorem dX3_about_17 : decode cX3_about 17 = .ok (.ireturn, 1) := by decide +kernel
theorem dX3_row_0 : decode cX3_row 0 = .ok (.aload_n 0, 1) := by decide +kernel
theorem dX3_row_1 : decode cX3_row 1 = .ok (.iload_n 1, 1) := by decide +kernel
theorem dX3_row_2 : decode cX3_row 2 = .ok (.invokevirtual 115, 3) := by decide +kernel
theorem dX3_row_5 : decode cX3_row 5 = .ok (.astore_n 3, 1) := by decide +kernel
theorem dX3_row_6 : decode cX3_row 6 = .ok (.iload_n 2, 1) := by decide +kernel
theorem dX3_row_7 : decode cX3_row 7 = .ok (.iconst 0, 1) := by decide +kernel
theorem dX3_row_8 : decode cX3_row 8 = .ok (.sipush 200, 3) := by decide +kernel
theorem dX3_row_11 : decode cX3_row 11 = .ok (.invokestatic 37, 3) := by decide +kernel
theorem dX3_row_14 : decode cX3_row 14 = .ok (.aload_n 3, 1) := by decide +kernel
theorem dX3_row_15 : decode cX3_row 15 = .ok (.getfield 124, 3) := by decide +kernel
theorem dX3_row_18 : decode cX3_row 18 = .ok (.ifCond .ne 13, 3) := by decide +kernel
theorem dX3_row_21 : decode cX3_row 21 = .ok (.new 45, 3) := by decide +kernel
theorem dX3_row_24 : decode cX3_row 24 = .ok (.dup, 1) := by decide +kernel
theorem dX3_row_25 : decode cX3_row 25 = .ok (.ldc 139, 2) := by decide +kernel
theorem dX3_row_27 : decode cX3_row 27 = .ok (.invokespecial 49, 3) := by decide +kernel
theorem dX3_row_30 : decode cX3_row 30 = .ok (.athrow, 1) := by decide +kernel
theorem dX3_row_31 : decode cX3_row 31 = .ok (.aload_n 0, 1) := by decide +kernel
theorem dX3_row_32 : decode cX3_row 32 = .ok (.getfield 22, 3) := by decide +kernel
theorem dX3_row_35 : decode cX3_row 35 = .ok (.invokevirtual 141, 3) := by decide +kernel
theorem dX3_row_38 : decode cX3_row 38 = .ok (.iconst 0, 1) := by decide +kernel
theorem dX3_row_39 : decode cX3_row 39 = .ok (.istore 4, 2) := by decide +kernel
theorem dX3_row_41 : decode cX3_row 41 = .ok (.iconst 0, 1) := by decide +kernel
theorem dX3_row_42 : decode cX3_row 42 = .ok (.istore 5, 2) := by decide +kernel
theorem dX3_row_44 : decode cX3_row 44 = .ok (.iload 5, 2) := by decide +kernel
theorem dX3_row_46 : decode cX3_row 46 = .ok (.iload_n 2, 1) := by decide +kernel
theorem dX3_row_47 : decode cX3_row 47 = .ok (.if_icmp .ge 43, 3) := by decide +kernel
theorem dX3_row_50 : decode cX3_row 50 = .ok (.aload_n 0, 1) := by decide +kernel
theorem dX3_row_51 : decode cX3_row 51 = .ok (.getfield 22, 3) := by decide +kernel
theorem dX3_row_54 : decode cX3_row 54 = .ok (.aload_n 3, 1) := by decide +kernel
theorem dX3_row_55 : decode cX3_row 55 = .ok (.iload 4, 2) := by decide +kernel
theorem dX3_row_57 : decode cX3_row 57 = .ok (.invokevirtual 144, 3) := by decide +kernel
theorem dX3_row_60 : decode cX3_row 60 = .ok (.invokevirtual 147, 3) := by decide +kernel
theorem dX3_row_63 : decode cX3_row 63 = .ok (.iload 4, 2) := by decide +kernel
theorem dX3_row_65 : decode cX3_row 65 = .ok (.iconst 1, 1) := by decide +kernel
theorem dX3_row_66 : decode cX3_row 66 = .ok (.iadd, 1) := by decide +kernel
theorem dX3_row_67 : decode cX3_row 67 = .ok (.aload_n 3, 1) := by decide +kernel
theorem dX3_row_68 : decode cX3_row 68 = .ok (.getfield 124, 3) := by decide +kernel
theorem dX3_row_71 : decode cX3_row 71 = .ok (.if_icmp .ge 10, 3) := by decide +kernel
theorem dX3_row_74 : decode cX3_row 74 = .ok (.iload 4, 2) := by decide +kernel
theorem dX3_row_76 : decode cX3_row 76 = .ok (.iconst 1, 1) := by decide +kernel
theorem dX3_row_77 : decode cX3_row 77 = .ok (.iadd, 1) := by decide +kernel
theorem dX3_row_78 : decode cX3_row 78 = .ok (.goto 4, 3) := by decide +kernel
theorem dX3_row_81 : decode cX3_row 81 = .ok (.iconst 0, 1) := by decide +kernel
theorem dX3_row_82 : decode cX3_row 82 = .ok (.istore 4, 2) := by decide +kernel
theorem dX3_row_84 : decode cX3_row 84 = .ok (.iinc 5 1, 3) := by decide +kernel
theorem dX3_row_87 : decode cX3_row 87 = .ok (.goto (-43), 3) := by decide +kernel
theorem dX3_row_90 : decode cX3_row 90 = .ok (.aload_n 0, 1) := by decide +kernel
theorem dX3_row_91 : decode cX3_row 91 = .ok (.getfield 22, 3) := by decide +kernel
theorem dX3_row_94 : decode cX3_row 94 = .ok (.invokevirtual 150, 3) := by decide +kernel
theorem dX3_row_97 : decode cX3_row 97 = .ok (.ireturn, 1) := by decide +kernel
theorem dX3_dodges_0 : decode cX3_dodges 0 = .ok (.aload_n 0, 1) := by decide +kernel
theorem dX3_dodges_1 : decode cX3_dodges 1 = .ok (.iload_n 1, 1) := by decide +kernel
theorem dX3_dodges_2 : decode cX3_dodges 2 = .ok (.invokevirtual 115, 3) := by decide +kernel
theorem dX3_dodges_5 : decode cX3_dodges 5 = .ok (.astore_n 3, 1) := by decide +kernel
theorem dX3_dodges_6 : decode cX3_dodges 6 = .ok (.iload_n 2, 1) := by decide +kernel
theorem dX3_dodges_7 : decode cX3_dodges 7 = .ok (.bipush 6, 2) := by decide +kernel
theorem dX3_dodges_9 : decode cX3_dodges 9 = .ok (.invokestatic 33, 3) := by decide +kernel
theorem dX3_dodges_12 : decode cX3_dodges 12 = .ok (.aload_n 3, 1) := by decide +kernel
theorem dX3_dodges_13 : decode cX3_dodges 13 = .ok (.getfield 154, 3) := by decide +kernel
theorem dX3_dodges_16 : decode cX3_dodges 16 = .ok (.iload_n 2, 1) := by decide +kernel
theorem dX3_dodges_17 : decode cX3_dodges 17 = .ok (.iaload, 1) := by decide +kernel
theorem dX3_dodges_18 : decode cX3_dodges 18 = .ok (.ireturn, 1) := by decide +kernel
theorem dX3_ring_0 : decode cX3_ring 0 = .ok (.iload_n 1, 1) := by decide +kernel
theorem dX3_ring_1 : decode cX3_ring 1 = .ok (.iconst 3, 1) := by decide +kernel
theorem dX3_ring_2 : decode cX3_ring 2 = .ok (.invokestatic 33, 3) := by decide +kernel
theorem dX3_ring_5 : decode cX3_ring 5 = .ok (.aload_n 0, 1) := by decide +kernel
theorem dX3_ring_6 : decode cX3_ring 6 = .ok (.iload_n 2, 1) := by decide +kernel
theorem dX3_ring_7 : decode cX3_ring 7 = .ok (.invokevirtual 115, 3) := by decide +kernel
theorem dX3_ring_10 : decode cX3_ring 10 = .ok (.astore 4, 2) := by decide +kernel
theorem dX3_ring_12 : decode cX3_ring 12 = .ok (.iload_n 3, 1) := by decide +kernel
theorem dX3_ring_13 : decode cX3_ring 13 = .ok (.iconst 1, 1) := by decide +kernel
theorem dX3_ring_14 : decode cX3_ring 14 = .ok (.bipush 12, 2) := by decide +kernel
theorem dX3_ring_16 : decode cX3_ring 16 = .ok (.invokestatic 37, 3) := by decide +kernel
theorem dX3_ring_19 : decode cX3_ring 19 = .ok (.aload_n 0, 1) := by decide +kernel
theorem dX3_ring_20 : decode cX3_ring 20 = .ok (.aload 4, 2) := by decide +kernel
theorem dX3_ring_22 : decode cX3_ring 22 = .ok (.iload_n 1, 1) := by decide +kernel
theorem dX3_ring_23 : decode cX3_ring 23 = .ok (.invokevirtual 157, 3) := by decide +kernel
theorem dX3_ring_26 : decode cX3_ring 26 = .ok (.ifCond .ne 13, 3) := by decide +kernel
theorem dX3_ring_29 : decode cX3_ring 29 = .ok (.new 45, 3) := by decide +kernel
theorem dX3_ring_32 : decode cX3_ring 32 = .ok (.dup, 1) := by decide +kernel
theorem dX3_ring_33 : decode cX3_ring 33 = .ok (.ldc 161, 2) := by decide +kernel
theorem dX3_ring_35 : decode cX3_ring 35 = .ok (.invokespecial 49, 3) := by decide +kernel
theorem dX3_ring_38 : decode cX3_ring 38 = .ok (.athrow, 1) := by decide +kernel
theorem dX3_ring_39 : decode cX3_ring 39 = .ok (.aload_n 0, 1) := by decide +kernel
theorem dX3_ring_40 : decode cX3_ring 40 = .ok (.getfield 12, 3) := by decide +kernel
theorem dX3_ring_43 : decode cX3_ring 43 = .ok (.iload_n 1, 1) := by decide +kernel
theorem dX3_ring_44 : decode cX3_ring 44 = .ok (.aload 4, 2) := by decide +kernel
theorem dX3_ring_46 : decode cX3_ring 46 = .ok (.iload_n 3, 1) := by decide +kernel
theorem dX3_ring_47 : decode cX3_ring 47 = .ok (.aload_n 0, 1) := by decide +kernel
theorem dX3_ring_48 : decode cX3_ring 48 = .ok (.getfield 22, 3) := by decide +kernel
theorem dX3_ring_51 : decode cX3_ring 51 = .ok (.invokevirtual 163, 3) := by decide +kernel
theorem dX3_ring_54 : decode cX3_ring 54 = .ok (.istore 5, 2) := by decide +kernel
theorem dX3_ring_56 : decode cX3_ring 56 = .ok (.aload_n 0, 1) := by decide +kernel
theorem dX3_ring_57 : decode cX3_ring 57 = .ok (.dup, 1) := by decide +kernel
theorem dX3_ring_58 : decode cX3_ring 58 = .ok (.getfield 167, 3) := by decide +kernel
theorem dX3_ring_61 : decode cX3_ring 61 = .ok (.iconst 1, 1) := by decide +kernel
theorem dX3_ring_62 : decode cX3_ring 62 = .ok (.iadd, 1) := by decide +kernel
theorem dX3_ring_63 : decode cX3_ring 63 = .ok (.putfield 167, 3) := by decide +kernel
theorem dX3_ring_66 : decode cX3_ring 66 = .ok (.aload_n 0, 1) := by decide +kernel
theorem dX3_ring_67 : decode cX3_ring 67 = .ok (.dup, 1) := by decide +kernel
theorem dX3_ring_68 : decode cX3_ring 68 = .ok (.getfield 170, 3) := by decide +kernel
theorem dX3_ring_71 : decode cX3_ring 71 = .ok (.iload 5, 2) := by decide +kernel
theorem dX3_ring_73 : decode cX3_ring 73 = .ok (.iadd, 1) := by decide +kernel
theorem dX3_ring_74 : decode cX3_ring 74 = .ok (.putfield 170, 3) := by decide +kernel
theorem dX3_ring_77 : decode cX3_ring 77 = .ok (.iload 5, 2) := by decide +kernel
theorem dX3_ring_79 : decode cX3_ring 79 = .ok (.ireturn, 1) := by decide +kernel
theorem dX3_would_0 : decode cX3_would 0 = .ok (.iload_n 1, 1) := by decide +kernel
theorem dX3_would_1 : decode cX3_would 1 = .ok (.iconst 3, 1) := by decide +kernel
theorem dX3_would_2 : decode cX3_would 2 = .ok (.invokestatic 33, 3) := by decide +kernel
theorem dX3_would_5 : decode cX3_would 5 = .ok (.aload_n 0, 1) := by decide +kernel
theorem dX3_would_6 : decode cX3_would 6 = .ok (.iload_n 2, 1) := by decide +kernel
theorem dX3_would_7 : decode cX3_would 7 = .ok (.invokevirtual 115, 3) := by decide +kernel
theorem dX3_would_10 : decode cX3_would 10 = .ok (.astore 4, 2) := by decide +kernel
theorem dX3_would_12 : decode cX3_would 12 = .ok (.iload_n 3, 1) := by decide +kernel
theorem dX3_would_13 : decode cX3_would 13 = .ok (.iconst 1, 1) := by decide +kernel
theorem dX3_would_14 : decode cX3_would 14 = .ok (.bipush 12, 2) := by decide +kernel
theorem dX3_would_16 : decode cX3_would 16 = .ok (.invokestatic 37, 3) := by decide +kernel
theorem dX3_would_19 : decode cX3_would 19 = .ok (.aload_n 0, 1) := by decide +kernel
theorem dX3_would_20 : decode cX3_would 20 = .ok (.iload_n 1, 1) := by decide +kernel
theorem dX3_would_21 : decode cX3_would 21 = .ok (.aload 4, 2) := by decide +kernel
theorem dX3_would_23 : decode cX3_would 23 = .ok (.iload_n 3, 1) := by decide +kernel
theorem dX3_would_24 : decode cX3_would 24 = .ok (.invokevirtual 173, 3) := by decide +kernel
theorem dX3_would_27 : decode cX3_would 27 = .ok (.ireturn, 1) := by decide +kernel
theorem dX3_advise_0 : decode cX3_advise 0 = .ok (.iload_n 1, 1) := by decide +kernel
theorem dX3_advise_1 : decode cX3_advise 1 = .ok (.iconst 3, 1) := by decide +kernel
theorem dX3_advise_2 : decode cX3_advise 2 = .ok (.invokestatic 33, 3) := by decide +kernel
theorem dX3_advise_5 : decode cX3_advise 5 = .ok (.iconst (-1), 1) := by decide +kernel
theorem dX3_advise_6 : decode cX3_advise 6 = .ok (.istore_n 2, 1) := by decide +kernel
theorem dX3_advise_7 : decode cX3_advise 7 = .ok (.iconst 0, 1) := by decide +kernel
theorem dX3_advise_8 : decode cX3_advise 8 = .ok (.istore_n 3, 1) := by decide +kernel
theorem dX3_advise_9 : decode cX3_advise 9 = .ok (.iconst 0, 1) := by decide +kernel
theorem dX3_advise_10 : decode cX3_advise 10 = .ok (.istore 4, 2) := by decide +kernel
theorem dX3_advise_12 : decode cX3_advise 12 = .ok (.iload 4, 2) := by decide +kernel
theorem dX3_advise_14 : decode cX3_advise 14 = .ok (.aload_n 0, 1) := by decide +kernel
theorem dX3_advise_15 : decode cX3_advise 15 = .ok (.getfield 110, 3) := by decide +kernel
theorem dX3_advise_18 : decode cX3_advise 18 = .ok (.if_icmp .ge 43, 3) := by decide +kernel
theorem dX3_advise_21 : decode cX3_advise 21 = .ok (.aload_n 0, 1) := by decide +kernel
theorem dX3_advise_22 : decode cX3_advise 22 = .ok (.iload 4, 2) := by decide +kernel
theorem dX3_advise_24 : decode cX3_advise 24 = .ok (.invokevirtual 115, 3) := by decide +kernel
theorem dX3_advise_27 : decode cX3_advise 27 = .ok (.astore 5, 2) := by decide +kernel
theorem dX3_advise_29 : decode cX3_advise 29 = .ok (.aload_n 0, 1) := by decide +kernel
theorem dX3_advise_30 : decode cX3_advise 30 = .ok (.iload_n 1, 1) := by decide +kernel
theorem dX3_advise_31 : decode cX3_advise 31 = .ok (.aload 5, 2) := by decide +kernel
theorem dX3_advise_33 : decode cX3_advise 33 = .ok (.aload 5, 2) := by decide +kernel
theorem dX3_advise_35 : decode cX3_advise 35 = .ok (.getfield 177, 3) := by decide +kernel
theorem dX3_advise_38 : decode cX3_advise 38 = .ok (.invokevirtual 173, 3) := by decide +kernel
theorem dX3_advise_41 : decode cX3_advise 41 = .ok (.istore 6, 2) := by decide +kernel
theorem dX3_advise_43 : decode cX3_advise 43 = .ok (.iload 6, 2) := by decide +kernel
theorem dX3_advise_45 : decode cX3_advise 45 = .ok (.iload_n 3, 1) := by decide +kernel
theorem dX3_advise_46 : decode cX3_advise 46 = .ok (.if_icmp .le 9, 3) := by decide +kernel
theorem dX3_advise_49 : decode cX3_advise 49 = .ok (.iload 6, 2) := by decide +kernel
theorem dX3_advise_51 : decode cX3_advise 51 = .ok (.istore_n 3, 1) := by decide +kernel
theorem dX3_advise_52 : decode cX3_advise 52 = .ok (.iload 4, 2) := by decide +kernel
theorem dX3_advise_54 : decode cX3_advise 54 = .ok (.istore_n 2, 1) := by decide +kernel
theorem dX3_advise_55 : decode cX3_advise 55 = .ok (.iinc 4 1, 3) := by decide +kernel
theorem dX3_advise_58 : decode cX3_advise 58 = .ok (.goto (-46), 3) := by decide +kernel
theorem dX3_advise_61 : decode cX3_advise 61 = .ok (.iload_n 2, 1) := by decide +kernel
theorem dX3_advise_62 : decode cX3_advise 62 = .ok (.ireturn, 1) := by decide +kernel
theorem dX3_count_0 : decode cX3_count 0 = .ok (.iload_n 1, 1) := by decide +kernel
theorem dX3_count_1 : decode cX3_count 1 = .ok (.bipush 9, 2) := by decide +kernel
theorem dX3_count_3 : decode cX3_count 3 = .ok (.invokestatic 33, 3) := by decide +kernel
theorem dX3_count_6 : decode cX3_count 6 = .ok (.iload_n 1, 1) := by decide +kernel
theorem dX3_count_7 : decode cX3_count 7 = .ok (.tableswitch 100 0 7 #[45, 53, 61, 69, 74, 82, 87, 92], 45) := by decide +kernel
theorem dX3_count_52 : decode cX3_count 52 = .ok (.aload_n 0, 1) := by decide +kernel
theorem dX3_count_53 : decode cX3_count 53 = .ok (.getfield 12, 3) := by decide +kernel
theorem dX3_count_56 : decode cX3_count 56 = .ok (.getfield 180, 3) := by decide +kernel
theorem dX3_count_59 : decode cX3_count 59 = .ok (.ireturn, 1) := by decide +kernel
theorem dX3_count_60 : decode cX3_count 60 = .ok (.aload_n 0, 1) := by decide +kernel
theorem dX3_count_61 : decode cX3_count 61 = .ok (.getfield 12, 3) := by decide +kernel
theorem dX3_count_64 : decode cX3_count 64 = .ok (.getfield 41, 3) := by decide +kernel
theorem dX3_count_67 : decode cX3_count 67 = .ok (.ireturn, 1) := by decide +kernel
theorem dX3_count_68 : decode cX3_count 68 = .ok (.aload_n 0, 1) := by decide +kernel
theorem dX3_count_69 : decode cX3_count 69 = .ok (.getfield 12, 3) := by decide +kernel
theorem dX3_count_72 : decode cX3_count 72 = .ok (.invokevirtual 183, 3) := by decide +kernel
theorem dX3_count_75 : decode cX3_count 75 = .ok (.ireturn, 1) := by decide +kernel
theorem dX3_count_76 : decode cX3_count 76 = .ok (.aload_n 0, 1) := by decide +kernel
theorem dX3_count_77 : decode cX3_count 77 = .ok (.getfield 110, 3) := by decide +kernel
theorem dX3_count_80 : decode cX3_count 80 = .ok (.ireturn, 1) := by decide +kernel
theorem dX3_count_81 : decode cX3_count 81 = .ok (.aload_n 0, 1) := by decide +kernel
theorem dX3_count_82 : decode cX3_count 82 = .ok (.getfield 12, 3) := by decide +kernel
theorem dX3_count_85 : decode cX3_count 85 = .ok (.invokevirtual 186, 3) := by decide +kernel
theorem dX3_count_88 : decode cX3_count 88 = .ok (.ireturn, 1) := by decide +kernel
theorem dX3_count_89 : decode cX3_count 89 = .ok (.aload_n 0, 1) := by decide +kernel
theorem dX3_count_90 : decode cX3_count 90 = .ok (.getfield 167, 3) := by decide +kernel
theorem dX3_count_93 : decode cX3_count 93 = .ok (.ireturn, 1) := by decide +kernel
theorem dX3_count_94 : decode cX3_count 94 = .ok (.aload_n 0, 1) := by decide +kernel
theorem dX3_count_95 : decode cX3_count 95 = .ok (.getfield 170, 3) := by decide +kernel
theorem dX3_count_98 : decode cX3_count 98 = .ok (.ireturn, 1) := by decide +kernel
theorem dX3_count_99 : decode cX3_count 99 = .ok (.aload_n 0, 1) := by decide +kernel
theorem dX3_count_100 : decode cX3_count 100 = .ok (.getfield 12, 3) := by decide +kernel
theorem dX3_count_103 : decode cX3_count 103 = .ok (.invokevirtual 189, 3) := by decide +kernel
theorem dX3_count_106 : decode cX3_count 106 = .ok (.ireturn, 1) := by decide +kernel
theorem dX3_count_107 : decode cX3_count 107 = .ok (.aload_n 0, 1) := by decide +kernel
theorem dX3_count_108 : decode cX3_count 108 = .ok (.getfield 12, 3) := by decide +kernel
theorem dX3_count_111 : decode cX3_count 111 = .ok (.invokevirtual 192, 3) := by decide +kernel
theorem dX3_count_114 : decode cX3_count 114 = .ok (.ireturn, 1) := by decide +kernel
theorem dX3_pass_0 : decode cX3_pass 0 = .ok (.iload_n 1, 1) := by decide +kernel
theorem dX3_pass_1 : decode cX3_pass 1 = .ok (.iconst 1, 1) := by decide +kernel
theorem dX3_pass_2 : decode cX3_pass 2 = .ok (.bipush 60, 2) := by decide +kernel
theorem dX3_pass_4 : decode cX3_pass 4 = .ok (.invokestatic 37, 3) := by decide +kernel
theorem dX3_pass_7 : decode cX3_pass 7 = .ok (.aload_n 0, 1) := by decide +kernel
theorem dX3_pass_8 : decode cX3_pass 8 = .ok (.getfield 16, 3) := by decide +kernel
theorem dX3_pass_11 : decode cX3_pass 11 = .ok (.aload_n 0, 1) := by decide +kernel
theorem dX3_pass_12 : decode cX3_pass 12 = .ok (.getfield 12, 3) := by decide +kernel
theorem dX3_pass_15 : decode cX3_pass 15 = .ok (.invokevirtual 106, 3) := by decide +kernel
theorem dX3_pass_18 : decode cX3_pass 18 = .ok (.aload_n 0, 1) := by decide +kernel
theorem dX3_pass_19 : decode cX3_pass 19 = .ok (.getfield 12, 3) := by decide +kernel
theorem dX3_pass_22 : decode cX3_pass 22 = .ok (.iload_n 1, 1) := by decide +kernel
theorem dX3_pass_23 : decode cX3_pass 23 = .ok (.invokevirtual 195, 3) := by decide +kernel
theorem dX3_pass_26 : decode cX3_pass 26 = .ok (.aload_n 0, 1) := by decide +kernel
theorem dX3_pass_27 : decode cX3_pass 27 = .ok (.getfield 12, 3) := by decide +kernel
theorem dX3_pass_30 : decode cX3_pass 30 = .ok (.aload_n 0, 1) := by decide +kernel
theorem dX3_pass_31 : decode cX3_pass 31 = .ok (.getfield 16, 3) := by decide +kernel
theorem dX3_pass_34 : decode cX3_pass 34 = .ok (.invokevirtual 198, 3) := by decide +kernel
theorem dX3_pass_37 : decode cX3_pass 37 = .ok (.ireturn, 1) := by decide +kernel
theorem dX3_foresee_0 : decode cX3_foresee 0 = .ok (.iload_n 1, 1) := by decide +kernel
theorem dX3_foresee_1 : decode cX3_foresee 1 = .ok (.aload_n 0, 1) := by decide +kernel
theorem dX3_foresee_2 : decode cX3_foresee 2 = .ok (.getfield 12, 3) := by decide +kernel
theorem dX3_foresee_5 : decode cX3_foresee 5 = .ok (.getfield 41, 3) := by decide +kernel
theorem dX3_foresee_8 : decode cX3_foresee 8 = .ok (.invokestatic 33, 3) := by decide +kernel
theorem dX3_foresee_11 : decode cX3_foresee 11 = .ok (.iload_n 2, 1) := by decide +kernel
theorem dX3_foresee_12 : decode cX3_foresee 12 = .ok (.iconst 1, 1) := by decide +kernel
theorem dX3_foresee_13 : decode cX3_foresee 13 = .ok (.bipush 60, 2) := by decide +kernel
theorem dX3_foresee_15 : decode cX3_foresee 15 = .ok (.invokestatic 37, 3) := by decide +kernel
theorem dX3_foresee_18 : decode cX3_foresee 18 = .ok (.iload_n 3, 1) := by decide +kernel
theorem dX3_foresee_19 : decode cX3_foresee 19 = .ok (.iconst 3, 1) := by decide +kernel
theorem dX3_foresee_20 : decode cX3_foresee 20 = .ok (.iconst 5, 1) := by decide +kernel
theorem dX3_foresee_21 : decode cX3_foresee 21 = .ok (.invokestatic 37, 3) := by decide +kernel
theorem dX3_foresee_24 : decode cX3_foresee 24 = .ok (.aload_n 0, 1) := by decide +kernel
theorem dX3_foresee_25 : decode cX3_foresee 25 = .ok (.getfield 16, 3) := by decide +kernel
theorem dX3_foresee_28 : decode cX3_foresee 28 = .ok (.aload_n 0, 1) := by decide +kernel
theorem dX3_foresee_29 : decode cX3_foresee 29 = .ok (.getfield 12, 3) := by decide +kernel
theorem dX3_foresee_32 : decode cX3_foresee 32 = .ok (.invokevirtual 106, 3) := by decide +kernel
theorem dX3_foresee_35 : decode cX3_foresee 35 = .ok (.aload_n 0, 1) := by decide +kernel
theorem dX3_foresee_36 : decode cX3_foresee 36 = .ok (.getfield 16, 3) := by decide +kernel
theorem dX3_foresee_39 : decode cX3_foresee 39 = .ok (.iload_n 2, 1) := by decide +kernel
theorem dX3_foresee_40 : decode cX3_foresee 40 = .ok (.invokevirtual 195, 3) := by decide +kernel
theorem dX3_foresee_43 : decode cX3_foresee 43 = .ok (.aload_n 0, 1) := by decide +kernel
theorem dX3_foresee_44 : decode cX3_foresee 44 = .ok (.getfield 16, 3) := by decide +kernel
theorem dX3_foresee_47 : decode cX3_foresee 47 = .ok (.iload_n 1, 1) := by decide +kernel
theorem dX3_foresee_48 : decode cX3_foresee 48 = .ok (.iload_n 3, 1) := by decide +kernel
theorem dX3_foresee_49 : decode cX3_foresee 49 = .ok (.invokevirtual 103, 3) := by decide +kernel
theorem dX3_foresee_52 : decode cX3_foresee 52 = .ok (.ireturn, 1) := by decide +kernel
theorem dX3_mean_0 : decode cX3_mean 0 = .ok (.aload_n 0, 1) := by decide +kernel
theorem dX3_mean_1 : decode cX3_mean 1 = .ok (.getfield 12, 3) := by decide +kernel
theorem dX3_mean_4 : decode cX3_mean 4 = .ok (.invokevirtual 183, 3) := by decide +kernel
theorem dX3_mean_7 : decode cX3_mean 7 = .ok (.istore_n 1, 1) := by decide +kernel
theorem dX3_mean_8 : decode cX3_mean 8 = .ok (.iload_n 1, 1) := by decide +kernel
theorem dX3_mean_9 : decode cX3_mean 9 = .ok (.ifCond .ne 5, 3) := by decide +kernel
theorem dX3_mean_12 : decode cX3_mean 12 = .ok (.dconst 0, 1) := by decide +kernel
theorem dX3_mean_13 : decode cX3_mean 13 = .ok (.dreturn, 1) := by decide +kernel
theorem dX3_mean_14 : decode cX3_mean 14 = .ok (.aload_n 0, 1) := by decide +kernel
theorem dX3_mean_15 : decode cX3_mean 15 = .ok (.getfield 12, 3) := by decide +kernel
theorem dX3_mean_18 : decode cX3_mean 18 = .ok (.invokevirtual 202, 3) := by decide +kernel
theorem dX3_mean_21 : decode cX3_mean 21 = .ok (.i2d, 1) := by decide +kernel
theorem dX3_mean_22 : decode cX3_mean 22 = .ok (.iload_n 1, 1) := by decide +kernel
theorem dX3_mean_23 : decode cX3_mean 23 = .ok (.i2d, 1) := by decide +kernel
theorem dX3_mean_24 : decode cX3_mean 24 = .ok (.ddiv, 1) := by decide +kernel
theorem dX3_mean_25 : decode cX3_mean 25 = .ok (.dreturn, 1) := by decide +kernel
theorem dX3_digest_0 : decode cX3_digest 0 = .ok (.ldc2_w 205, 3) := by decide +kernel
theorem dX3_digest_3 : decode cX3_digest 3 = .ok (.lstore_n 1, 1) := by decide +kernel
theorem dX3_digest_4 : decode cX3_digest 4 = .ok (.iconst 0, 1) := by decide +kernel
theorem dX3_digest_5 : decode cX3_digest 5 = .ok (.istore_n 3, 1) := by decide +kernel
theorem dX3_digest_6 : decode cX3_digest 6 = .ok (.iload_n 3, 1) := by decide +kernel
theorem dX3_digest_7 : decode cX3_digest 7 = .ok (.bipush 9, 2) := by decide +kernel
theorem dX3_digest_9 : decode cX3_digest 9 = .ok (.if_icmp .ge 22, 3) := by decide +kernel
theorem dX3_digest_12 : decode cX3_digest 12 = .ok (.lload_n 1, 1) := by decide +kernel
theorem dX3_digest_13 : decode cX3_digest 13 = .ok (.ldc2_w 207, 3) := by decide +kernel
theorem dX3_digest_16 : decode cX3_digest 16 = .ok (.lmul, 1) := by decide +kernel
theorem dX3_digest_17 : decode cX3_digest 17 = .ok (.aload_n 0, 1) := by decide +kernel
theorem dX3_digest_18 : decode cX3_digest 18 = .ok (.iload_n 3, 1) := by decide +kernel
theorem dX3_digest_19 : decode cX3_digest 19 = .ok (.invokevirtual 209, 3) := by decide +kernel
theorem dX3_digest_22 : decode cX3_digest 22 = .ok (.i2l, 1) := by decide +kernel
theorem dX3_digest_23 : decode cX3_digest 23 = .ok (.ladd, 1) := by decide +kernel
theorem dX3_digest_24 : decode cX3_digest 24 = .ok (.lstore_n 1, 1) := by decide +kernel
theorem dX3_digest_25 : decode cX3_digest 25 = .ok (.iinc 3 1, 3) := by decide +kernel
theorem dX3_digest_28 : decode cX3_digest 28 = .ok (.goto (-22), 3) := by decide +kernel
theorem dX3_digest_31 : decode cX3_digest 31 = .ok (.aload_n 0, 1) := by decide +kernel
theorem dX3_digest_32 : decode cX3_digest 32 = .ok (.lload_n 1, 1) := by decide +kernel
theorem dX3_digest_33 : decode cX3_digest 33 = .ok (.invokevirtual 212, 3) := by decide +kernel
theorem dX3_digest_36 : decode cX3_digest 36 = .ok (.lstore_n 1, 1) := by decide +kernel
theorem dX3_digest_37 : decode cX3_digest 37 = .ok (.aload_n 0, 1) := by decide +kernel
theorem dX3_digest_38 : decode cX3_digest 38 = .ok (.lload_n 1, 1) := by decide +kernel
theorem dX3_digest_39 : decode cX3_digest 39 = .ok (.invokevirtual 216, 3) := by decide +kernel
theorem dX3_digest_42 : decode cX3_digest 42 = .ok (.lstore_n 1, 1) := by decide +kernel
theorem dX3_digest_43 : decode cX3_digest 43 = .ok (.aload_n 0, 1) := by decide +kernel
theorem dX3_digest_44 : decode cX3_digest 44 = .ok (.lload_n 1, 1) := by decide +kernel
theorem dX3_digest_45 : decode cX3_digest 45 = .ok (.invokevirtual 219, 3) := by decide +kernel
theorem dX3_digest_48 : decode cX3_digest 48 = .ok (.lreturn, 1) := by decide +kernel
theorem dX3_digestRingers_0 : decode cX3_digestRingers 0 = .ok (.lload_n 1, 1) := by decide +kernel
theorem dX3_digestRingers_1 : decode cX3_digestRingers 1 = .ok (.lstore_n 3, 1) := by decide +kernel
theorem dX3_digestRingers_2 : decode cX3_digestRingers 2 = .ok (.iconst 0, 1) := by decide +kernel
theorem dX3_digestRingers_3 : decode cX3_digestRingers 3 = .ok (.istore 5, 2) := by decide +kernel
theorem dX3_digestRingers_5 : decode cX3_digestRingers 5 = .ok (.iload 5, 2) := by decide +kernel
theorem dX3_digestRingers_7 : decode cX3_digestRingers 7 = .ok (.aload_n 0, 1) := by decide +kernel
theorem dX3_digestRingers_8 : decode cX3_digestRingers 8 = .ok (.getfield 12, 3) := by decide +kernel
theorem dX3_digestRingers_11 : decode cX3_digestRingers 11 = .ok (.getfield 41, 3) := by decide +kernel
theorem dX3_digestRingers_14 : decode cX3_digestRingers 14 = .ok (.if_icmp .ge 41, 3) := by decide +kernel
theorem dX3_digestRingers_17 : decode cX3_digestRingers 17 = .ok (.iconst 0, 1) := by decide +kernel
theorem dX3_digestRingers_18 : decode cX3_digestRingers 18 = .ok (.istore 6, 2) := by decide +kernel
theorem dX3_digestRingers_20 : decode cX3_digestRingers 20 = .ok (.iload 6, 2) := by decide +kernel
theorem dX3_digestRingers_22 : decode cX3_digestRingers 22 = .ok (.bipush 8, 2) := by decide +kernel
theorem dX3_digestRingers_24 : decode cX3_digestRingers 24 = .ok (.if_icmp .ge 25, 3) := by decide +kernel
theorem dX3_digestRingers_27 : decode cX3_digestRingers 27 = .ok (.lload_n 3, 1) := by decide +kernel
theorem dX3_digestRingers_28 : decode cX3_digestRingers 28 = .ok (.ldc2_w 207, 3) := by decide +kernel
theorem dX3_digestRingers_31 : decode cX3_digestRingers 31 = .ok (.lmul, 1) := by decide +kernel
theorem dX3_digestRingers_32 : decode cX3_digestRingers 32 = .ok (.aload_n 0, 1) := by decide +kernel
theorem dX3_digestRingers_33 : decode cX3_digestRingers 33 = .ok (.iload 5, 2) := by decide +kernel
theorem dX3_digestRingers_35 : decode cX3_digestRingers 35 = .ok (.iload 6, 2) := by decide +kernel
theorem dX3_digestRingers_37 : decode cX3_digestRingers 37 = .ok (.invokevirtual 222, 3) := by decide +kernel
theorem dX3_digestRingers_40 : decode cX3_digestRingers 40 = .ok (.i2l, 1) := by decide +kernel
theorem dX3_digestRingers_41 : decode cX3_digestRingers 41 = .ok (.ladd, 1) := by decide +kernel
theorem dX3_digestRingers_42 : decode cX3_digestRingers 42 = .ok (.lstore_n 3, 1) := by decide +kernel
theorem dX3_digestRingers_43 : decode cX3_digestRingers 43 = .ok (.iinc 6 1, 3) := by decide +kernel
theorem dX3_digestRingers_46 : decode cX3_digestRingers 46 = .ok (.goto (-26), 3) := by decide +kernel
theorem dX3_digestRingers_49 : decode cX3_digestRingers 49 = .ok (.iinc 5 1, 3) := by decide +kernel
theorem dX3_digestRingers_52 : decode cX3_digestRingers 52 = .ok (.goto (-47), 3) := by decide +kernel
theorem dX3_digestRingers_55 : decode cX3_digestRingers 55 = .ok (.lload_n 3, 1) := by decide +kernel
theorem dX3_digestRingers_56 : decode cX3_digestRingers 56 = .ok (.lreturn, 1) := by decide +kernel
theorem dX3_digestBands_0 : decode cX3_digestBands 0 = .ok (.lload_n 1, 1) := by decide +kernel
theorem dX3_digestBands_1 : decode cX3_digestBands 1 = .ok (.lstore_n 3, 1) := by decide +kernel
theorem dX3_digestBands_2 : decode cX3_digestBands 2 = .ok (.iconst 0, 1) := by decide +kernel
theorem dX3_digestBands_3 : decode cX3_digestBands 3 = .ok (.istore 5, 2) := by decide +kernel
theorem dX3_digestBands_5 : decode cX3_digestBands 5 = .ok (.iload 5, 2) := by decide +kernel
theorem dX3_digestBands_7 : decode cX3_digestBands 7 = .ok (.iconst 3, 1) := by decide +kernel
theorem dX3_digestBands_8 : decode cX3_digestBands 8 = .ok (.if_icmp .ge 58, 3) := by decide +kernel
theorem dX3_digestBands_11 : decode cX3_digestBands 11 = .ok (.iconst 0, 1) := by decide +kernel
theorem dX3_digestBands_12 : decode cX3_digestBands 12 = .ok (.istore 6, 2) := by decide +kernel
theorem dX3_digestBands_14 : decode cX3_digestBands 14 = .ok (.iload 6, 2) := by decide +kernel
theorem dX3_digestBands_16 : decode cX3_digestBands 16 = .ok (.bipush 6, 2) := by decide +kernel
theorem dX3_digestBands_18 : decode cX3_digestBands 18 = .ok (.if_icmp .ge 42, 3) := by decide +kernel
theorem dX3_digestBands_21 : decode cX3_digestBands 21 = .ok (.iconst 0, 1) := by decide +kernel
theorem dX3_digestBands_22 : decode cX3_digestBands 22 = .ok (.istore 7, 2) := by decide +kernel
theorem dX3_digestBands_24 : decode cX3_digestBands 24 = .ok (.iload 7, 2) := by decide +kernel
theorem dX3_digestBands_26 : decode cX3_digestBands 26 = .ok (.iconst 3, 1) := by decide +kernel
theorem dX3_digestBands_27 : decode cX3_digestBands 27 = .ok (.if_icmp .ge 27, 3) := by decide +kernel
theorem dX3_digestBands_30 : decode cX3_digestBands 30 = .ok (.lload_n 3, 1) := by decide +kernel
theorem dX3_digestBands_31 : decode cX3_digestBands 31 = .ok (.ldc2_w 207, 3) := by decide +kernel
theorem dX3_digestBands_34 : decode cX3_digestBands 34 = .ok (.lmul, 1) := by decide +kernel
theorem dX3_digestBands_35 : decode cX3_digestBands 35 = .ok (.aload_n 0, 1) := by decide +kernel
theorem dX3_digestBands_36 : decode cX3_digestBands 36 = .ok (.iload 5, 2) := by decide +kernel
theorem dX3_digestBands_38 : decode cX3_digestBands 38 = .ok (.iload 6, 2) := by decide +kernel
theorem dX3_digestBands_40 : decode cX3_digestBands 40 = .ok (.iload 7, 2) := by decide +kernel
theorem dX3_digestBands_42 : decode cX3_digestBands 42 = .ok (.invokevirtual 225, 3) := by decide +kernel
theorem dX3_digestBands_45 : decode cX3_digestBands 45 = .ok (.i2l, 1) := by decide +kernel
theorem dX3_digestBands_46 : decode cX3_digestBands 46 = .ok (.ladd, 1) := by decide +kernel
theorem dX3_digestBands_47 : decode cX3_digestBands 47 = .ok (.lstore_n 3, 1) := by decide +kernel
theorem dX3_digestBands_48 : decode cX3_digestBands 48 = .ok (.iinc 7 1, 3) := by decide +kernel
theorem dX3_digestBands_51 : decode cX3_digestBands 51 = .ok (.goto (-27), 3) := by decide +kernel
theorem dX3_digestBands_54 : decode cX3_digestBands 54 = .ok (.iinc 6 1, 3) := by decide +kernel
theorem dX3_digestBands_57 : decode cX3_digestBands 57 = .ok (.goto (-43), 3) := by decide +kernel
theorem dX3_digestBands_60 : decode cX3_digestBands 60 = .ok (.iinc 5 1, 3) := by decide +kernel
theorem dX3_digestBands_63 : decode cX3_digestBands 63 = .ok (.goto (-58), 3) := by decide +kernel
theorem dX3_digestBands_66 : decode cX3_digestBands 66 = .ok (.lload_n 3, 1) := by decide +kernel
theorem dX3_digestBands_67 : decode cX3_digestBands 67 = .ok (.lreturn, 1) := by decide +kernel
theorem dX3_digestMethods_0 : decode cX3_digestMethods 0 = .ok (.lload_n 1, 1) := by decide +kernel
theorem dX3_digestMethods_1 : decode cX3_digestMethods 1 = .ok (.lstore_n 3, 1) := by decide +kernel
theorem dX3_digestMethods_2 : decode cX3_digestMethods 2 = .ok (.iconst 0, 1) := by decide +kernel
theorem dX3_digestMethods_3 : decode cX3_digestMethods 3 = .ok (.istore 5, 2) := by decide +kernel
theorem dX3_digestMethods_5 : decode cX3_digestMethods 5 = .ok (.iload 5, 2) := by decide +kernel
theorem dX3_digestMethods_7 : decode cX3_digestMethods 7 = .ok (.aload_n 0, 1) := by decide +kernel
theorem dX3_digestMethods_8 : decode cX3_digestMethods 8 = .ok (.getfield 110, 3) := by decide +kernel
theorem dX3_digestMethods_11 : decode cX3_digestMethods 11 = .ok (.if_icmp .ge 115, 3) := by decide +kernel
theorem dX3_digestMethods_14 : decode cX3_digestMethods 14 = .ok (.iconst 0, 1) := by decide +kernel
theorem dX3_digestMethods_15 : decode cX3_digestMethods 15 = .ok (.istore 6, 2) := by decide +kernel
theorem dX3_digestMethods_17 : decode cX3_digestMethods 17 = .ok (.iload 6, 2) := by decide +kernel
theorem dX3_digestMethods_19 : decode cX3_digestMethods 19 = .ok (.bipush 6, 2) := by decide +kernel
theorem dX3_digestMethods_21 : decode cX3_digestMethods 21 = .ok (.if_icmp .ge 25, 3) := by decide +kernel
theorem dX3_digestMethods_24 : decode cX3_digestMethods 24 = .ok (.lload_n 3, 1) := by decide +kernel
theorem dX3_digestMethods_25 : decode cX3_digestMethods 25 = .ok (.ldc2_w 207, 3) := by decide +kernel
theorem dX3_digestMethods_28 : decode cX3_digestMethods 28 = .ok (.lmul, 1) := by decide +kernel
theorem dX3_digestMethods_29 : decode cX3_digestMethods 29 = .ok (.aload_n 0, 1) := by decide +kernel
theorem dX3_digestMethods_30 : decode cX3_digestMethods 30 = .ok (.iload 5, 2) := by decide +kernel
theorem dX3_digestMethods_32 : decode cX3_digestMethods 32 = .ok (.iload 6, 2) := by decide +kernel
theorem dX3_digestMethods_34 : decode cX3_digestMethods 34 = .ok (.invokevirtual 228, 3) := by decide +kernel
theorem dX3_digestMethods_37 : decode cX3_digestMethods 37 = .ok (.i2l, 1) := by decide +kernel
theorem dX3_digestMethods_38 : decode cX3_digestMethods 38 = .ok (.ladd, 1) := by decide +kernel
theorem dX3_digestMethods_39 : decode cX3_digestMethods 39 = .ok (.lstore_n 3, 1) := by decide +kernel
theorem dX3_digestMethods_40 : decode cX3_digestMethods 40 = .ok (.iinc 6 1, 3) := by decide +kernel
theorem dX3_digestMethods_43 : decode cX3_digestMethods 43 = .ok (.goto (-26), 3) := by decide +kernel
theorem dX3_digestMethods_46 : decode cX3_digestMethods 46 = .ok (.aload_n 0, 1) := by decide +kernel
theorem dX3_digestMethods_47 : decode cX3_digestMethods 47 = .ok (.iload 5, 2) := by decide +kernel
theorem dX3_digestMethods_49 : decode cX3_digestMethods 49 = .ok (.invokevirtual 115, 3) := by decide +kernel
theorem dX3_digestMethods_52 : decode cX3_digestMethods 52 = .ok (.astore 6, 2) := by decide +kernel
theorem dX3_digestMethods_54 : decode cX3_digestMethods 54 = .ok (.iconst 0, 1) := by decide +kernel
theorem dX3_digestMethods_55 : decode cX3_digestMethods 55 = .ok (.istore 7, 2) := by decide +kernel
theorem dX3_digestMethods_57 : decode cX3_digestMethods 57 = .ok (.iload 7, 2) := by decide +kernel
theorem dX3_digestMethods_59 : decode cX3_digestMethods 59 = .ok (.aload 6, 2) := by decide +kernel
theorem dX3_digestMethods_61 : decode cX3_digestMethods 61 = .ok (.getfield 124, 3) := by decide +kernel
theorem dX3_digestMethods_64 : decode cX3_digestMethods 64 = .ok (.if_icmp .ge 24, 3) := by decide +kernel
theorem dX3_digestMethods_67 : decode cX3_digestMethods 67 = .ok (.lload_n 3, 1) := by decide +kernel
theorem dX3_digestMethods_68 : decode cX3_digestMethods 68 = .ok (.ldc2_w 207, 3) := by decide +kernel
theorem dX3_digestMethods_71 : decode cX3_digestMethods 71 = .ok (.lmul, 1) := by decide +kernel
theorem dX3_digestMethods_72 : decode cX3_digestMethods 72 = .ok (.aload 6, 2) := by decide +kernel
theorem dX3_digestMethods_74 : decode cX3_digestMethods 74 = .ok (.iload 7, 2) := by decide +kernel
theorem dX3_digestMethods_76 : decode cX3_digestMethods 76 = .ok (.invokevirtual 144, 3) := by decide +kernel
theorem dX3_digestMethods_79 : decode cX3_digestMethods 79 = .ok (.i2l, 1) := by decide +kernel
theorem dX3_digestMethods_80 : decode cX3_digestMethods 80 = .ok (.ladd, 1) := by decide +kernel
theorem dX3_digestMethods_81 : decode cX3_digestMethods 81 = .ok (.lstore_n 3, 1) := by decide +kernel
theorem dX3_digestMethods_82 : decode cX3_digestMethods 82 = .ok (.iinc 7 1, 3) := by decide +kernel
theorem dX3_digestMethods_85 : decode cX3_digestMethods 85 = .ok (.goto (-28), 3) := by decide +kernel
theorem dX3_digestMethods_88 : decode cX3_digestMethods 88 = .ok (.iconst 0, 1) := by decide +kernel
theorem dX3_digestMethods_89 : decode cX3_digestMethods 89 = .ok (.istore 7, 2) := by decide +kernel
theorem dX3_digestMethods_91 : decode cX3_digestMethods 91 = .ok (.iload 7, 2) := by decide +kernel
theorem dX3_digestMethods_93 : decode cX3_digestMethods 93 = .ok (.bipush 6, 2) := by decide +kernel
theorem dX3_digestMethods_95 : decode cX3_digestMethods 95 = .ok (.if_icmp .ge 25, 3) := by decide +kernel
theorem dX3_digestMethods_98 : decode cX3_digestMethods 98 = .ok (.lload_n 3, 1) := by decide +kernel
theorem dX3_digestMethods_99 : decode cX3_digestMethods 99 = .ok (.ldc2_w 207, 3) := by decide +kernel
theorem dX3_digestMethods_102 : decode cX3_digestMethods 102 = .ok (.lmul, 1) := by decide +kernel
theorem dX3_digestMethods_103 : decode cX3_digestMethods 103 = .ok (.aload_n 0, 1) := by decide +kernel
theorem dX3_digestMethods_104 : decode cX3_digestMethods 104 = .ok (.iload 5, 2) := by decide +kernel
theorem dX3_digestMethods_106 : decode cX3_digestMethods 106 = .ok (.iload 7, 2) := by decide +kernel
theorem dX3_digestMethods_108 : decode cX3_digestMethods 108 = .ok (.invokevirtual 231, 3) := by decide +kernel
theorem dX3_digestMethods_111 : decode cX3_digestMethods 111 = .ok (.i2l, 1) := by decide +kernel
theorem dX3_digestMethods_112 : decode cX3_digestMethods 112 = .ok (.ladd, 1) := by decide +kernel
theorem dX3_digestMethods_113 : decode cX3_digestMethods 113 = .ok (.lstore_n 3, 1) := by decide +kernel
theorem dX3_digestMethods_114 : decode cX3_digestMethods 114 = .ok (.iinc 7 1, 3) := by decide +kernel
theorem dX3_digestMethods_117 : decode cX3_digestMethods 117 = .ok (.goto (-26), 3) := by decide +kernel
theorem dX3_digestMethods_120 : decode cX3_digestMethods 120 = .ok (.iinc 5 1, 3) := by decide +kernel
theorem dX3_digestMethods_123 : decode cX3_digestMethods 123 = .ok (.goto (-118), 3) := by decide +kernel
theorem dX3_digestMethods_126 : decode cX3_digestMethods 126 = .ok (.lload_n 3, 1) := by decide +kernel
theorem dX3_digestMethods_127 : decode cX3_digestMethods 127 = .ok (.lreturn, 1) := by decide +kernel
theorem dX3_canBeRung_0 : decode cX3_canBeRung 0 = .ok (.aload_n 1, 1) := by decide +kernel
theorem dX3_canBeRung_1 : decode cX3_canBeRung 1 = .ok (.getfield 124, 3) := by decide +kernel
theorem dX3_canBeRung_4 : decode cX3_canBeRung 4 = .ok (.ifCond .le 18, 3) := by decide +kernel
theorem dX3_canBeRung_7 : decode cX3_canBeRung 7 = .ok (.aload_n 0, 1) := by decide +kernel
theorem dX3_canBeRung_8 : decode cX3_canBeRung 8 = .ok (.getfield 12, 3) := by decide +kernel
theorem dX3_canBeRung_11 : decode cX3_canBeRung 11 = .ok (.iload_n 2, 1) := by decide +kernel
theorem dX3_canBeRung_12 : decode cX3_canBeRung 12 = .ok (.invokevirtual 234, 3) := by decide +kernel
theorem dX3_canBeRung_15 : decode cX3_canBeRung 15 = .ok (.ifCond .eq 7, 3) := by decide +kernel
theorem dX3_canBeRung_18 : decode cX3_canBeRung 18 = .ok (.iconst 1, 1) := by decide +kernel
theorem dX3_canBeRung_19 : decode cX3_canBeRung 19 = .ok (.goto 4, 3) := by decide +kernel
theorem dX3_canBeRung_22 : decode cX3_canBeRung 22 = .ok (.iconst 0, 1) := by decide +kernel
theorem dX3_canBeRung_23 : decode cX3_canBeRung 23 = .ok (.ireturn, 1) := by decide +kernel
theorem dX3_votesBrought_0 : decode cX3_votesBrought 0 = .ok (.aload_n 0, 1) := by decide +kernel
theorem dX3_votesBrought_1 : decode cX3_votesBrought 1 = .ok (.aload_n 2, 1) := by decide +kernel
theorem dX3_votesBrought_2 : decode cX3_votesBrought 2 = .ok (.iload_n 1, 1) := by decide +kernel
theorem dX3_votesBrought_3 : decode cX3_votesBrought 3 = .ok (.invokevirtual 157, 3) := by decide +kernel
theorem dX3_votesBrought_6 : decode cX3_votesBrought 6 = .ok (.ifCond .ne 7, 3) := by decide +kernel
theorem dX3_votesBrought_9 : decode cX3_votesBrought 9 = .ok (.sipush (-1000), 3) := by decide +kernel
theorem dX3_votesBrought_12 : decode cX3_votesBrought 12 = .ok (.ireturn, 1) := by decide +kernel
theorem dX3_votesBrought_13 : decode cX3_votesBrought 13 = .ok (.aload_n 0, 1) := by decide +kernel
theorem dX3_votesBrought_14 : decode cX3_votesBrought 14 = .ok (.getfield 16, 3) := by decide +kernel
theorem dX3_votesBrought_17 : decode cX3_votesBrought 17 = .ok (.aload_n 0, 1) := by decide +kernel
theorem dX3_votesBrought_18 : decode cX3_votesBrought 18 = .ok (.getfield 12, 3) := by decide +kernel
theorem dX3_votesBrought_21 : decode cX3_votesBrought 21 = .ok (.invokevirtual 106, 3) := by decide +kernel
theorem dX3_votesBrought_24 : decode cX3_votesBrought 24 = .ok (.aload_n 0, 1) := by decide +kernel
theorem dX3_votesBrought_25 : decode cX3_votesBrought 25 = .ok (.getfield 16, 3) := by decide +kernel
theorem dX3_votesBrought_28 : decode cX3_votesBrought 28 = .ok (.iload_n 1, 1) := by decide +kernel
theorem dX3_votesBrought_29 : decode cX3_votesBrought 29 = .ok (.aload_n 2, 1) := by decide +kernel
theorem dX3_votesBrought_30 : decode cX3_votesBrought 30 = .ok (.iload_n 3, 1) := by decide +kernel
theorem dX3_votesBrought_31 : decode cX3_votesBrought 31 = .ok (.aload_n 0, 1) := by decide +kernel
theorem dX3_votesBrought_32 : decode cX3_votesBrought 32 = .ok (.getfield 22, 3) := by decide +kernel
theorem dX3_votesBrought_35 : decode cX3_votesBrought 35 = .ok (.invokevirtual 163, 3) := by decide +kernel
theorem dX3_votesBrought_38 : decode cX3_votesBrought 38 = .ok (.pop, 1) := by decide +kernel
theorem dX3_votesBrought_39 : decode cX3_votesBrought 39 = .ok (.aload_n 0, 1) := by decide +kernel
theorem dX3_votesBrought_40 : decode cX3_votesBrought 40 = .ok (.getfield 16, 3) := by decide +kernel
theorem dX3_votesBrought_43 : decode cX3_votesBrought 43 = .ok (.invokevirtual 192, 3) := by decide +kernel
theorem dX3_votesBrought_46 : decode cX3_votesBrought 46 = .ok (.aload_n 0, 1) := by decide +kernel
theorem dX3_votesBrought_47 : decode cX3_votesBrought 47 = .ok (.getfield 12, 3) := by decide +kernel
theorem dX3_votesBrought_50 : decode cX3_votesBrought 50 = .ok (.invokevirtual 192, 3) := by decide +kernel
theorem dX3_votesBrought_53 : decode cX3_votesBrought 53 = .ok (.isub, 1) := by decide +kernel
theorem dX3_votesBrought_54 : decode cX3_votesBrought 54 = .ok (.ireturn, 1) := by decide +kernel
theorem dX3_listNumbered_0 : decode cX3_listNumbered 0 = .ok (.iload_n 1, 1) := by decide +kernel
theorem dX3_listNumbered_1 : decode cX3_listNumbered 1 = .ok (.aload_n 0, 1) := by decide +kernel
theorem dX3_listNumbered_2 : decode cX3_listNumbered 2 = .ok (.getfield 110, 3) := by decide +kernel
theorem dX3_listNumbered_5 : decode cX3_listNumbered 5 = .ok (.invokestatic 33, 3) := by decide +kernel
theorem dX3_listNumbered_8 : decode cX3_listNumbered 8 = .ok (.aload_n 0, 1) := by decide +kernel
theorem dX3_listNumbered_9 : decode cX3_listNumbered 9 = .ok (.getfield 28, 3) := by decide +kernel
theorem dX3_listNumbered_12 : decode cX3_listNumbered 12 = .ok (.iload_n 1, 1) := by decide +kernel
theorem dX3_listNumbered_13 : decode cX3_listNumbered 13 = .ok (.aaload, 1) := by decide +kernel
theorem dX3_listNumbered_14 : decode cX3_listNumbered 14 = .ok (.areturn, 1) := by decide +kernel
theorem dX3_seatNumber_0 : decode cX3_seatNumber 0 = .ok (.iload_n 0, 1) := by decide +kernel
theorem dX3_seatNumber_1 : decode cX3_seatNumber 1 = .ok (.bipush 6, 2) := by decide +kernel
theorem dX3_seatNumber_3 : decode cX3_seatNumber 3 = .ok (.imul, 1) := by decide +kernel
theorem dX3_seatNumber_4 : decode cX3_seatNumber 4 = .ok (.iload_n 1, 1) := by decide +kernel
theorem dX3_seatNumber_5 : decode cX3_seatNumber 5 = .ok (.iadd, 1) := by decide +kernel
theorem dX3_seatNumber_6 : decode cX3_seatNumber 6 = .ok (.ireturn, 1) := by decide +kernel
theorem dX3_requireSeat_0 : decode cX3_requireSeat 0 = .ok (.iload_n 0, 1) := by decide +kernel
theorem dX3_requireSeat_1 : decode cX3_requireSeat 1 = .ok (.iconst 3, 1) := by decide +kernel
theorem dX3_requireSeat_2 : decode cX3_requireSeat 2 = .ok (.invokestatic 33, 3) := by decide +kernel
theorem dX3_requireSeat_5 : decode cX3_requireSeat 5 = .ok (.iload_n 1, 1) := by decide +kernel
theorem dX3_requireSeat_6 : decode cX3_requireSeat 6 = .ok (.bipush 6, 2) := by decide +kernel
theorem dX3_requireSeat_8 : decode cX3_requireSeat 8 = .ok (.invokestatic 33, 3) := by decide +kernel
theorem dX3_requireSeat_11 : decode cX3_requireSeat 11 = .ok (.return_, 1) := by decide +kernel
theorem dX3_requireIndex_0 : decode cX3_requireIndex 0 = .ok (.iload_n 0, 1) := by decide +kernel
theorem dX3_requireIndex_1 : decode cX3_requireIndex 1 = .ok (.ifCond .lt 8, 3) := by decide +kernel
theorem dX3_requireIndex_4 : decode cX3_requireIndex 4 = .ok (.iload_n 0, 1) := by decide +kernel
theorem dX3_requireIndex_5 : decode cX3_requireIndex 5 = .ok (.iload_n 1, 1) := by decide +kernel
theorem dX3_requireIndex_6 : decode cX3_requireIndex 6 = .ok (.if_icmp .lt 13, 3) := by decide +kernel
theorem dX3_requireIndex_9 : decode cX3_requireIndex 9 = .ok (.new 237, 3) := by decide +kernel
theorem dX3_requireIndex_12 : decode cX3_requireIndex 12 = .ok (.dup, 1) := by decide +kernel
theorem dX3_requireIndex_13 : decode cX3_requireIndex 13 = .ok (.ldc 239, 2) := by decide +kernel
theorem dX3_requireIndex_15 : decode cX3_requireIndex 15 = .ok (.invokespecial 241, 3) := by decide +kernel
theorem dX3_requireIndex_18 : decode cX3_requireIndex 18 = .ok (.athrow, 1) := by decide +kernel
theorem dX3_requireIndex_19 : decode cX3_requireIndex 19 = .ok (.return_, 1) := by decide +kernel
theorem dX3_requireWithin_0 : decode cX3_requireWithin 0 = .ok (.iload_n 0, 1) := by decide +kernel
theorem dX3_requireWithin_1 : decode cX3_requireWithin 1 = .ok (.iload_n 1, 1) := by decide +kernel
theorem dX3_requireWithin_2 : decode cX3_requireWithin 2 = .ok (.if_icmp .lt 8, 3) := by decide +kernel
theorem dX3_requireWithin_5 : decode cX3_requireWithin 5 = .ok (.iload_n 0, 1) := by decide +kernel
theorem dX3_requireWithin_6 : decode cX3_requireWithin 6 = .ok (.iload_n 2, 1) := by decide +kernel
theorem dX3_requireWithin_7 : decode cX3_requireWithin 7 = .ok (.if_icmp .le 13, 3) := by decide +kernel
theorem dX3_requireWithin_10 : decode cX3_requireWithin 10 = .ok (.new 119, 3) := by decide +kernel
theorem dX3_requireWithin_13 : decode cX3_requireWithin 13 = .ok (.dup, 1) := by decide +kernel
theorem dX3_requireWithin_14 : decode cX3_requireWithin 14 = .ok (.ldc 242, 2) := by decide +kernel
theorem dX3_requireWithin_16 : decode cX3_requireWithin 16 = .ok (.invokespecial 123, 3) := by decide +kernel
theorem dX3_requireWithin_19 : decode cX3_requireWithin 19 = .ok (.athrow, 1) := by decide +kernel
theorem dX3_requireWithin_20 : decode cX3_requireWithin 20 = .ok (.return_, 1) := by decide +kernel
theorem dX4_init_0 : decode cX4_init 0 = .ok (.aload_n 0, 1) := by decide +kernel
theorem dX4_init_1 : decode cX4_init 1 = .ok (.aload_n 1, 1) := by decide +kernel
theorem dX4_init_2 : decode cX4_init 2 = .ok (.putfield 3, 3) := by decide +kernel
theorem dX4_init_5 : decode cX4_init 5 = .ok (.aload_n 0, 1) := by decide +kernel
theorem dX4_init_6 : decode cX4_init 6 = .ok (.invokespecial 9, 3) := by decide +kernel
theorem dX4_init_9 : decode cX4_init 9 = .ok (.aload_n 0, 1) := by decide +kernel
theorem dX4_init_10 : decode cX4_init 10 = .ok (.bipush 20, 2) := by decide +kernel
theorem dX4_init_12 : decode cX4_init 12 = .ok (.newarray .int, 2) := by decide +kernel
theorem dX4_init_14 : decode cX4_init 14 = .ok (.putfield 15, 3) := by decide +kernel
theorem dX4_init_17 : decode cX4_init 17 = .ok (.aload_n 0, 1) := by decide +kernel
theorem dX4_init_18 : decode cX4_init 18 = .ok (.bipush 20, 2) := by decide +kernel
theorem dX4_init_20 : decode cX4_init 20 = .ok (.newarray .int, 2) := by decide +kernel
theorem dX4_init_22 : decode cX4_init 22 = .ok (.putfield 19, 3) := by decide +kernel
theorem dX4_init_25 : decode cX4_init 25 = .ok (.aload_n 0, 1) := by decide +kernel
theorem dX4_init_26 : decode cX4_init 26 = .ok (.bipush 20, 2) := by decide +kernel
theorem dX4_init_28 : decode cX4_init 28 = .ok (.newarray .int, 2) := by decide +kernel
theorem dX4_init_30 : decode cX4_init 30 = .ok (.putfield 22, 3) := by decide +kernel
theorem dX4_init_33 : decode cX4_init 33 = .ok (.aload_n 0, 1) := by decide +kernel
theorem dX4_init_34 : decode cX4_init 34 = .ok (.bipush 20, 2) := by decide +kernel
theorem dX4_init_36 : decode cX4_init 36 = .ok (.newarray .int, 2) := by decide +kernel
theorem dX4_init_38 : decode cX4_init 38 = .ok (.putfield 25, 3) := by decide +kernel
theorem dX4_init_41 : decode cX4_init 41 = .ok (.return_, 1) := by decide +kernel
theorem dX4_copy_0 : decode cX4_copy 0 = .ok (.aload_n 1, 1) := by decide +kernel
theorem dX4_copy_1 : decode cX4_copy 1 = .ok (.iconst 0, 1) := by decide +kernel
theorem dX4_copy_2 : decode cX4_copy 2 = .ok (.aload_n 2, 1) := by decide +kernel
theorem dX4_copy_3 : decode cX4_copy 3 = .ok (.iconst 0, 1) := by decide +kernel
theorem dX4_copy_4 : decode cX4_copy 4 = .ok (.aload_n 1, 1) := by decide +kernel
theorem dX4_copy_5 : decode cX4_copy 5 = .ok (.arraylength, 1) := by decide +kernel
theorem dX4_copy_6 : decode cX4_copy 6 = .ok (.invokestatic 28, 3) := by decide +kernel
theorem dX4_copy_9 : decode cX4_copy 9 = .ok (.return_, 1) := by decide +kernel
theorem dX4_become_0 : decode cX4_become 0 = .ok (.aload_n 0, 1) := by decide +kernel
theorem dX4_become_1 : decode cX4_become 1 = .ok (.aload_n 1, 1) := by decide +kernel
theorem dX4_become_2 : decode cX4_become 2 = .ok (.getfield 34, 3) := by decide +kernel
theorem dX4_become_5 : decode cX4_become 5 = .ok (.putfield 34, 3) := by decide +kernel
theorem dX4_become_8 : decode cX4_become 8 = .ok (.aload_n 0, 1) := by decide +kernel
theorem dX4_become_9 : decode cX4_become 9 = .ok (.aload_n 1, 1) := by decide +kernel
theorem dX4_become_10 : decode cX4_become 10 = .ok (.getfield 15, 3) := by decide +kernel
theorem dX4_become_13 : decode cX4_become 13 = .ok (.aload_n 0, 1) := by decide +kernel
theorem dX4_become_14 : decode cX4_become 14 = .ok (.getfield 15, 3) := by decide +kernel
theorem dX4_become_17 : decode cX4_become 17 = .ok (.invokevirtual 38, 3) := by decide +kernel
theorem dX4_become_20 : decode cX4_become 20 = .ok (.aload_n 0, 1) := by decide +kernel
theorem dX4_become_21 : decode cX4_become 21 = .ok (.aload_n 1, 1) := by decide +kernel
theorem dX4_become_22 : decode cX4_become 22 = .ok (.getfield 19, 3) := by decide +kernel
theorem dX4_become_25 : decode cX4_become 25 = .ok (.aload_n 0, 1) := by decide +kernel
theorem dX4_become_26 : decode cX4_become 26 = .ok (.getfield 19, 3) := by decide +kernel
theorem dX4_become_29 : decode cX4_become 29 = .ok (.invokevirtual 38, 3) := by decide +kernel
theorem dX4_become_32 : decode cX4_become 32 = .ok (.aload_n 0, 1) := by decide +kernel
theorem dX4_become_33 : decode cX4_become 33 = .ok (.aload_n 1, 1) := by decide +kernel
theorem dX4_become_34 : decode cX4_become 34 = .ok (.getfield 22, 3) := by decide +kernel
theorem dX4_become_37 : decode cX4_become 37 = .ok (.aload_n 0, 1) := by decide +kernel
theorem dX4_become_38 : decode cX4_become 38 = .ok (.getfield 22, 3) := by decide +kernel
theorem dX4_become_41 : decode cX4_become 41 = .ok (.invokevirtual 38, 3) := by decide +kernel
theorem dX4_become_44 : decode cX4_become 44 = .ok (.aload_n 0, 1) := by decide +kernel
theorem dX4_become_45 : decode cX4_become 45 = .ok (.aload_n 1, 1) := by decide +kernel
theorem dX4_become_46 : decode cX4_become 46 = .ok (.getfield 25, 3) := by decide +kernel
theorem dX4_become_49 : decode cX4_become 49 = .ok (.aload_n 0, 1) := by decide +kernel
theorem dX4_become_50 : decode cX4_become 50 = .ok (.getfield 25, 3) := by decide +kernel
theorem dX4_become_53 : decode cX4_become 53 = .ok (.invokevirtual 38, 3) := by decide +kernel
theorem dX4_become_56 : decode cX4_become 56 = .ok (.aload_n 0, 1) := by decide +kernel
theorem dX4_become_57 : decode cX4_become 57 = .ok (.areturn, 1) := by decide +kernel
theorem dX4_ringerOf_0 : decode cX4_ringerOf 0 = .ok (.iconst 0, 1) := by decide +kernel
theorem dX4_ringerOf_1 : decode cX4_ringerOf 1 = .ok (.istore_n 2, 1) := by decide +kernel
theorem dX4_ringerOf_2 : decode cX4_ringerOf 2 = .ok (.iload_n 2, 1) := by decide +kernel
theorem dX4_ringerOf_3 : decode cX4_ringerOf 3 = .ok (.aload_n 0, 1) := by decide +kernel
theorem dX4_ringerOf_4 : decode cX4_ringerOf 4 = .ok (.getfield 3, 3) := by decide +kernel
theorem dX4_ringerOf_7 : decode cX4_ringerOf 7 = .ok (.getfield 42, 3) := by decide +kernel
theorem dX4_ringerOf_10 : decode cX4_ringerOf 10 = .ok (.if_icmp .ge 21, 3) := by decide +kernel
theorem dX4_ringerOf_13 : decode cX4_ringerOf 13 = .ok (.aload_n 0, 1) := by decide +kernel
theorem dX4_ringerOf_14 : decode cX4_ringerOf 14 = .ok (.getfield 25, 3) := by decide +kernel
theorem dX4_ringerOf_17 : decode cX4_ringerOf 17 = .ok (.iload_n 2, 1) := by decide +kernel
theorem dX4_ringerOf_18 : decode cX4_ringerOf 18 = .ok (.iaload, 1) := by decide +kernel
theorem dX4_ringerOf_19 : decode cX4_ringerOf 19 = .ok (.iload_n 1, 1) := by decide +kernel
theorem dX4_ringerOf_20 : decode cX4_ringerOf 20 = .ok (.if_icmp .ne 5, 3) := by decide +kernel
theorem dX4_ringerOf_23 : decode cX4_ringerOf 23 = .ok (.iload_n 2, 1) := by decide +kernel
theorem dX4_ringerOf_24 : decode cX4_ringerOf 24 = .ok (.ireturn, 1) := by decide +kernel
theorem dX4_ringerOf_25 : decode cX4_ringerOf 25 = .ok (.iinc 2 1, 3) := by decide +kernel
theorem dX4_ringerOf_28 : decode cX4_ringerOf 28 = .ok (.goto (-26), 3) := by decide +kernel
theorem dX4_ringerOf_31 : decode cX4_ringerOf 31 = .ok (.iconst (-1), 1) := by decide +kernel
theorem dX4_ringerOf_32 : decode cX4_ringerOf 32 = .ok (.ireturn, 1) := by decide +kernel
theorem dX4_elect_0 : decode cX4_elect 0 = .ok (.iconst 0, 1) := by decide +kernel
theorem dX4_elect_1 : decode cX4_elect 1 = .ok (.istore_n 2, 1) := by decide +kernel
theorem dX4_elect_2 : decode cX4_elect 2 = .ok (.iload_n 2, 1) := by decide +kernel
theorem dX4_elect_3 : decode cX4_elect 3 = .ok (.aload_n 0, 1) := by decide +kernel
theorem dX4_elect_4 : decode cX4_elect 4 = .ok (.getfield 3, 3) := by decide +kernel
theorem dX4_elect_7 : decode cX4_elect 7 = .ok (.getfield 42, 3) := by decide +kernel
theorem dX4_elect_10 : decode cX4_elect 10 = .ok (.if_icmp .ge 38, 3) := by decide +kernel
theorem dX4_elect_13 : decode cX4_elect 13 = .ok (.aload_n 0, 1) := by decide +kernel
theorem dX4_elect_14 : decode cX4_elect 14 = .ok (.getfield 25, 3) := by decide +kernel
theorem dX4_elect_17 : decode cX4_elect 17 = .ok (.iload_n 2, 1) := by decide +kernel
theorem dX4_elect_18 : decode cX4_elect 18 = .ok (.iaload, 1) := by decide +kernel
theorem dX4_elect_19 : decode cX4_elect 19 = .ok (.ifCond .lt 23, 3) := by decide +kernel
theorem dX4_elect_22 : decode cX4_elect 22 = .ok (.aload_n 0, 1) := by decide +kernel
theorem dX4_elect_23 : decode cX4_elect 23 = .ok (.getfield 25, 3) := by decide +kernel
theorem dX4_elect_26 : decode cX4_elect 26 = .ok (.iload_n 2, 1) := by decide +kernel
theorem dX4_elect_27 : decode cX4_elect 27 = .ok (.iaload, 1) := by decide +kernel
theorem dX4_elect_28 : decode cX4_elect 28 = .ok (.bipush 6, 2) := by decide +kernel
theorem dX4_elect_30 : decode cX4_elect 30 = .ok (.idiv, 1) := by decide +kernel
theorem dX4_elect_31 : decode cX4_elect 31 = .ok (.iload_n 1, 1) := by decide +kernel
theorem dX4_elect_32 : decode cX4_elect 32 = .ok (.if_icmp .ne 10, 3) := by decide +kernel
theorem dX4_elect_35 : decode cX4_elect 35 = .ok (.aload_n 0, 1) := by decide +kernel
theorem dX4_elect_36 : decode cX4_elect 36 = .ok (.getfield 25, 3) := by decide +kernel
theorem dX4_elect_39 : decode cX4_elect 39 = .ok (.iload_n 2, 1) := by decide +kernel
theorem dX4_elect_40 : decode cX4_elect 40 = .ok (.iconst (-1), 1) := by decide +kernel
theorem dX4_elect_41 : decode cX4_elect 41 = .ok (.iastore, 1) := by decide +kernel
theorem dX4_elect_42 : decode cX4_elect 42 = .ok (.iinc 2 1, 3) := by decide +kernel
theorem dX4_elect_45 : decode cX4_elect 45 = .ok (.goto (-43), 3) := by decide +kernel
theorem dX4_elect_48 : decode cX4_elect 48 = .ok (.bipush 6, 2) := by decide +kernel
theorem dX4_elect_50 : decode cX4_elect 50 = .ok (.iload_n 1, 1) := by decide +kernel
theorem dX4_elect_51 : decode cX4_elect 51 = .ok (.imul, 1) := by decide +kernel
theorem dX4_elect_52 : decode cX4_elect 52 = .ok (.istore_n 2, 1) := by decide +kernel
theorem dX4_elect_53 : decode cX4_elect 53 = .ok (.iload_n 2, 1) := by decide +kernel
theorem dX4_elect_54 : decode cX4_elect 54 = .ok (.bipush 6, 2) := by decide +kernel
theorem dX4_elect_56 : decode cX4_elect 56 = .ok (.iload_n 1, 1) := by decide +kernel
theorem dX4_elect_57 : decode cX4_elect 57 = .ok (.imul, 1) := by decide +kernel
theorem dX4_elect_58 : decode cX4_elect 58 = .ok (.bipush 6, 2) := by decide +kernel
theorem dX4_elect_60 : decode cX4_elect 60 = .ok (.iadd, 1) := by decide +kernel
theorem dX4_elect_61 : decode cX4_elect 61 = .ok (.if_icmp .ge 101, 3) := by decide +kernel
theorem dX4_elect_64 : decode cX4_elect 64 = .ok (.iconst (-1), 1) := by decide +kernel
theorem dX4_elect_65 : decode cX4_elect 65 = .ok (.istore_n 3, 1) := by decide +kernel
theorem dX4_elect_66 : decode cX4_elect 66 = .ok (.iconst 0, 1) := by decide +kernel
theorem dX4_elect_67 : decode cX4_elect 67 = .ok (.istore 4, 2) := by decide +kernel
theorem dX4_elect_69 : decode cX4_elect 69 = .ok (.iload 4, 2) := by decide +kernel
theorem dX4_elect_71 : decode cX4_elect 71 = .ok (.aload_n 0, 1) := by decide +kernel
theorem dX4_elect_72 : decode cX4_elect 72 = .ok (.getfield 3, 3) := by decide +kernel
theorem dX4_elect_75 : decode cX4_elect 75 = .ok (.getfield 42, 3) := by decide +kernel
theorem dX4_elect_78 : decode cX4_elect 78 = .ok (.if_icmp .ge 66, 3) := by decide +kernel
theorem dX4_elect_81 : decode cX4_elect 81 = .ok (.aload_n 0, 1) := by decide +kernel
theorem dX4_elect_82 : decode cX4_elect 82 = .ok (.getfield 3, 3) := by decide +kernel
theorem dX4_elect_85 : decode cX4_elect 85 = .ok (.getfield 45, 3) := by decide +kernel
theorem dX4_elect_88 : decode cX4_elect 88 = .ok (.iload 4, 2) := by decide +kernel
theorem dX4_elect_90 : decode cX4_elect 90 = .ok (.iaload, 1) := by decide +kernel
theorem dX4_elect_91 : decode cX4_elect 91 = .ok (.aload_n 0, 1) := by decide +kernel
theorem dX4_elect_92 : decode cX4_elect 92 = .ok (.getfield 3, 3) := by decide +kernel
theorem dX4_elect_95 : decode cX4_elect 95 = .ok (.getfield 48, 3) := by decide +kernel
theorem dX4_elect_98 : decode cX4_elect 98 = .ok (.iload_n 2, 1) := by decide +kernel
theorem dX4_elect_99 : decode cX4_elect 99 = .ok (.iaload, 1) := by decide +kernel
theorem dX4_elect_100 : decode cX4_elect 100 = .ok (.if_icmp .ne 38, 3) := by decide +kernel
theorem dX4_elect_103 : decode cX4_elect 103 = .ok (.aload_n 0, 1) := by decide +kernel
theorem dX4_elect_104 : decode cX4_elect 104 = .ok (.getfield 25, 3) := by decide +kernel
theorem dX4_elect_107 : decode cX4_elect 107 = .ok (.iload 4, 2) := by decide +kernel
theorem dX4_elect_109 : decode cX4_elect 109 = .ok (.iaload, 1) := by decide +kernel
theorem dX4_elect_110 : decode cX4_elect 110 = .ok (.iconst (-1), 1) := by decide +kernel
theorem dX4_elect_111 : decode cX4_elect 111 = .ok (.if_icmp .ne 27, 3) := by decide +kernel
theorem dX4_elect_114 : decode cX4_elect 114 = .ok (.iload_n 3, 1) := by decide +kernel
theorem dX4_elect_115 : decode cX4_elect 115 = .ok (.iconst (-1), 1) := by decide +kernel
theorem dX4_elect_116 : decode cX4_elect 116 = .ok (.if_icmp .eq 19, 3) := by decide +kernel
theorem dX4_elect_119 : decode cX4_elect 119 = .ok (.aload_n 0, 1) := by decide +kernel
theorem dX4_elect_120 : decode cX4_elect 120 = .ok (.getfield 15, 3) := by decide +kernel
theorem dX4_elect_123 : decode cX4_elect 123 = .ok (.iload 4, 2) := by decide +kernel
theorem dX4_elect_125 : decode cX4_elect 125 = .ok (.iaload, 1) := by decide +kernel
theorem dX4_elect_126 : decode cX4_elect 126 = .ok (.aload_n 0, 1) := by decide +kernel
theorem dX4_elect_127 : decode cX4_elect 127 = .ok (.getfield 15, 3) := by decide +kernel
theorem dX4_elect_130 : decode cX4_elect 130 = .ok (.iload_n 3, 1) := by decide +kernel
theorem dX4_elect_131 : decode cX4_elect 131 = .ok (.iaload, 1) := by decide +kernel
theorem dX4_elect_132 : decode cX4_elect 132 = .ok (.if_icmp .le 6, 3) := by decide +kernel
theorem dX4_elect_135 : decode cX4_elect 135 = .ok (.iload 4, 2) := by decide +kernel
theorem dX4_elect_137 : decode cX4_elect 137 = .ok (.istore_n 3, 1) := by decide +kernel
theorem dX4_elect_138 : decode cX4_elect 138 = .ok (.iinc 4 1, 3) := by decide +kernel
theorem dX4_elect_141 : decode cX4_elect 141 = .ok (.goto (-72), 3) := by decide +kernel
theorem dX4_elect_144 : decode cX4_elect 144 = .ok (.iload_n 3, 1) := by decide +kernel
theorem dX4_elect_145 : decode cX4_elect 145 = .ok (.iconst (-1), 1) := by decide +kernel
theorem dX4_elect_146 : decode cX4_elect 146 = .ok (.if_icmp .eq 10, 3) := by decide +kernel
theorem dX4_elect_149 : decode cX4_elect 149 = .ok (.aload_n 0, 1) := by decide +kernel
theorem dX4_elect_150 : decode cX4_elect 150 = .ok (.getfield 25, 3) := by decide +kernel
theorem dX4_elect_153 : decode cX4_elect 153 = .ok (.iload_n 3, 1) := by decide +kernel
theorem dX4_elect_154 : decode cX4_elect 154 = .ok (.iload_n 2, 1) := by decide +kernel
theorem dX4_elect_155 : decode cX4_elect 155 = .ok (.iastore, 1) := by decide +kernel
theorem dX4_elect_156 : decode cX4_elect 156 = .ok (.iinc 2 1, 3) := by decide +kernel
theorem dX4_elect_159 : decode cX4_elect 159 = .ok (.goto (-106), 3) := by decide +kernel
theorem dX4_elect_162 : decode cX4_elect 162 = .ok (.aload_n 0, 1) := by decide +kernel
theorem dX4_elect_163 : decode cX4_elect 163 = .ok (.areturn, 1) := by decide +kernel
theorem dX4_manned_0 : decode cX4_manned 0 = .ok (.iconst 0, 1) := by decide +kernel
theorem dX4_manned_1 : decode cX4_manned 1 = .ok (.istore_n 2, 1) := by decide +kernel
theorem dX4_manned_2 : decode cX4_manned 2 = .ok (.iconst 0, 1) := by decide +kernel
theorem dX4_manned_3 : decode cX4_manned 3 = .ok (.istore_n 3, 1) := by decide +kernel
theorem dX4_manned_4 : decode cX4_manned 4 = .ok (.iload_n 3, 1) := by decide +kernel
theorem dX4_manned_5 : decode cX4_manned 5 = .ok (.aload_n 0, 1) := by decide +kernel
theorem dX4_manned_6 : decode cX4_manned 6 = .ok (.getfield 3, 3) := by decide +kernel
theorem dX4_manned_9 : decode cX4_manned 9 = .ok (.getfield 42, 3) := by decide +kernel
theorem dX4_manned_12 : decode cX4_manned 12 = .ok (.if_icmp .ge 39, 3) := by decide +kernel
theorem dX4_manned_15 : decode cX4_manned 15 = .ok (.iload_n 2, 1) := by decide +kernel
theorem dX4_manned_16 : decode cX4_manned 16 = .ok (.aload_n 0, 1) := by decide +kernel
theorem dX4_manned_17 : decode cX4_manned 17 = .ok (.getfield 25, 3) := by decide +kernel
theorem dX4_manned_20 : decode cX4_manned 20 = .ok (.iload_n 3, 1) := by decide +kernel
theorem dX4_manned_21 : decode cX4_manned 21 = .ok (.iaload, 1) := by decide +kernel
theorem dX4_manned_22 : decode cX4_manned 22 = .ok (.ifCond .lt 20, 3) := by decide +kernel
theorem dX4_manned_25 : decode cX4_manned 25 = .ok (.aload_n 0, 1) := by decide +kernel
theorem dX4_manned_26 : decode cX4_manned 26 = .ok (.getfield 25, 3) := by decide +kernel
theorem dX4_manned_29 : decode cX4_manned 29 = .ok (.iload_n 3, 1) := by decide +kernel
theorem dX4_manned_30 : decode cX4_manned 30 = .ok (.iaload, 1) := by decide +kernel
theorem dX4_manned_31 : decode cX4_manned 31 = .ok (.bipush 6, 2) := by decide +kernel
theorem dX4_manned_33 : decode cX4_manned 33 = .ok (.idiv, 1) := by decide +kernel
theorem dX4_manned_34 : decode cX4_manned 34 = .ok (.iload_n 1, 1) := by decide +kernel
theorem dX4_manned_35 : decode cX4_manned 35 = .ok (.if_icmp .ne 7, 3) := by decide +kernel
theorem dX4_manned_38 : decode cX4_manned 38 = .ok (.iconst 1, 1) := by decide +kernel
theorem dX4_manned_39 : decode cX4_manned 39 = .ok (.goto 4, 3) := by decide +kernel
theorem dX4_manned_42 : decode cX4_manned 42 = .ok (.iconst 0, 1) := by decide +kernel
theorem dX4_manned_43 : decode cX4_manned 43 = .ok (.iadd, 1) := by decide +kernel
theorem dX4_manned_44 : decode cX4_manned 44 = .ok (.istore_n 2, 1) := by decide +kernel
theorem dX4_manned_45 : decode cX4_manned 45 = .ok (.iinc 3 1, 3) := by decide +kernel
theorem dX4_manned_48 : decode cX4_manned 48 = .ok (.goto (-44), 3) := by decide +kernel
theorem dX4_manned_51 : decode cX4_manned 51 = .ok (.iload_n 2, 1) := by decide +kernel
theorem dX4_manned_52 : decode cX4_manned 52 = .ok (.ireturn, 1) := by decide +kernel
theorem dX4_canRing_0 : decode cX4_canRing 0 = .ok (.iconst 0, 1) := by decide +kernel
theorem dX4_canRing_1 : decode cX4_canRing 1 = .ok (.istore_n 3, 1) := by decide +kernel
theorem dX4_canRing_2 : decode cX4_canRing 2 = .ok (.iload_n 3, 1) := by decide +kernel
theorem dX4_canRing_3 : decode cX4_canRing 3 = .ok (.aload_n 0, 1) := by decide +kernel
theorem dX4_canRing_4 : decode cX4_canRing 4 = .ok (.getfield 3, 3) := by decide +kernel
theorem dX4_canRing_7 : decode cX4_canRing 7 = .ok (.getfield 42, 3) := by decide +kernel
theorem dX4_canRing_10 : decode cX4_canRing 10 = .ok (.if_icmp .ge 44, 3) := by decide +kernel
theorem dX4_canRing_13 : decode cX4_canRing 13 = .ok (.aload_n 0, 1) := by decide +kernel
theorem dX4_canRing_14 : decode cX4_canRing 14 = .ok (.getfield 25, 3) := by decide +kernel
theorem dX4_canRing_17 : decode cX4_canRing 17 = .ok (.iload_n 3, 1) := by decide +kernel
theorem dX4_canRing_18 : decode cX4_canRing 18 = .ok (.iaload, 1) := by decide +kernel
theorem dX4_canRing_19 : decode cX4_canRing 19 = .ok (.ifCond .lt 29, 3) := by decide +kernel
theorem dX4_canRing_22 : decode cX4_canRing 22 = .ok (.aload_n 0, 1) := by decide +kernel
theorem dX4_canRing_23 : decode cX4_canRing 23 = .ok (.getfield 25, 3) := by decide +kernel
theorem dX4_canRing_26 : decode cX4_canRing 26 = .ok (.iload_n 3, 1) := by decide +kernel
theorem dX4_canRing_27 : decode cX4_canRing 27 = .ok (.iaload, 1) := by decide +kernel
theorem dX4_canRing_28 : decode cX4_canRing 28 = .ok (.bipush 6, 2) := by decide +kernel
theorem dX4_canRing_30 : decode cX4_canRing 30 = .ok (.idiv, 1) := by decide +kernel
theorem dX4_canRing_31 : decode cX4_canRing 31 = .ok (.iload_n 1, 1) := by decide +kernel
theorem dX4_canRing_32 : decode cX4_canRing 32 = .ok (.if_icmp .ne 16, 3) := by decide +kernel
theorem dX4_canRing_35 : decode cX4_canRing 35 = .ok (.aload_n 0, 1) := by decide +kernel
theorem dX4_canRing_36 : decode cX4_canRing 36 = .ok (.getfield 19, 3) := by decide +kernel
theorem dX4_canRing_39 : decode cX4_canRing 39 = .ok (.iload_n 3, 1) := by decide +kernel
theorem dX4_canRing_40 : decode cX4_canRing 40 = .ok (.iaload, 1) := by decide +kernel
theorem dX4_canRing_41 : decode cX4_canRing 41 = .ok (.bipush 15, 2) := by decide +kernel
theorem dX4_canRing_43 : decode cX4_canRing 43 = .ok (.if_icmp .lt 5, 3) := by decide +kernel
theorem dX4_canRing_46 : decode cX4_canRing 46 = .ok (.iconst 0, 1) := by decide +kernel
theorem dX4_canRing_47 : decode cX4_canRing 47 = .ok (.ireturn, 1) := by decide +kernel
theorem dX4_canRing_48 : decode cX4_canRing 48 = .ok (.iinc 3 1, 3) := by decide +kernel
theorem dX4_canRing_51 : decode cX4_canRing 51 = .ok (.goto (-49), 3) := by decide +kernel
theorem dX4_canRing_54 : decode cX4_canRing 54 = .ok (.aload_n 0, 1) := by decide +kernel
theorem dX4_canRing_55 : decode cX4_canRing 55 = .ok (.getfield 3, 3) := by decide +kernel
theorem dX4_canRing_58 : decode cX4_canRing 58 = .ok (.getfield 51, 3) := by decide +kernel
theorem dX4_canRing_61 : decode cX4_canRing 61 = .ok (.iload_n 2, 1) := by decide +kernel
theorem dX4_canRing_62 : decode cX4_canRing 62 = .ok (.iaload, 1) := by decide +kernel
theorem dX4_canRing_63 : decode cX4_canRing 63 = .ok (.ifCond .le 17, 3) := by decide +kernel
theorem dX4_canRing_66 : decode cX4_canRing 66 = .ok (.aload_n 0, 1) := by decide +kernel
theorem dX4_canRing_67 : decode cX4_canRing 67 = .ok (.iload_n 1, 1) := by decide +kernel
theorem dX4_canRing_68 : decode cX4_canRing 68 = .ok (.invokevirtual 54, 3) := by decide +kernel
theorem dX4_canRing_71 : decode cX4_canRing 71 = .ok (.bipush 6, 2) := by decide +kernel
theorem dX4_canRing_73 : decode cX4_canRing 73 = .ok (.if_icmp .ne 7, 3) := by decide +kernel
theorem dX4_canRing_76 : decode cX4_canRing 76 = .ok (.iconst 1, 1) := by decide +kernel
theorem dX4_canRing_77 : decode cX4_canRing 77 = .ok (.goto 4, 3) := by decide +kernel
theorem dX4_canRing_80 : decode cX4_canRing 80 = .ok (.iconst 0, 1) := by decide +kernel
theorem dX4_canRing_81 : decode cX4_canRing 81 = .ok (.ireturn, 1) := by decide +kernel
theorem dX4_ring_0 : decode cX4_ring 0 = .ok (.aload_n 0, 1) := by decide +kernel
theorem dX4_ring_1 : decode cX4_ring 1 = .ok (.getfield 3, 3) := by decide +kernel
theorem dX4_ring_4 : decode cX4_ring 4 = .ok (.iload_n 2, 1) := by decide +kernel
theorem dX4_ring_5 : decode cX4_ring 5 = .ok (.iload_n 3, 1) := by decide +kernel
theorem dX4_ring_6 : decode cX4_ring 6 = .ok (.invokevirtual 58, 3) := by decide +kernel
theorem dX4_ring_9 : decode cX4_ring 9 = .ok (.aload_n 0, 1) := by decide +kernel
theorem dX4_ring_10 : decode cX4_ring 10 = .ok (.getfield 3, 3) := by decide +kernel
theorem dX4_ring_13 : decode cX4_ring 13 = .ok (.invokevirtual 62, 3) := by decide +kernel
theorem dX4_ring_16 : decode cX4_ring 16 = .ok (.istore 4, 2) := by decide +kernel
theorem dX4_ring_18 : decode cX4_ring 18 = .ok (.iload 4, 2) := by decide +kernel
theorem dX4_ring_20 : decode cX4_ring 20 = .ok (.ifCond .ne 28, 3) := by decide +kernel
theorem dX4_ring_23 : decode cX4_ring 23 = .ok (.aload_n 0, 1) := by decide +kernel
theorem dX4_ring_24 : decode cX4_ring 24 = .ok (.getfield 3, 3) := by decide +kernel
theorem dX4_ring_27 : decode cX4_ring 27 = .ok (.getfield 66, 3) := by decide +kernel
theorem dX4_ring_30 : decode cX4_ring 30 = .ok (.aload_n 0, 1) := by decide +kernel
theorem dX4_ring_31 : decode cX4_ring 31 = .ok (.getfield 3, 3) := by decide +kernel
theorem dX4_ring_34 : decode cX4_ring 34 = .ok (.getfield 69, 3) := by decide +kernel
theorem dX4_ring_37 : decode cX4_ring 37 = .ok (.iaload, 1) := by decide +kernel
theorem dX4_ring_38 : decode cX4_ring 38 = .ok (.sipush 1865, 3) := by decide +kernel
theorem dX4_ring_41 : decode cX4_ring 41 = .ok (.if_icmp .ne 7, 3) := by decide +kernel
theorem dX4_ring_44 : decode cX4_ring 44 = .ok (.iload_n 3, 1) := by decide +kernel
theorem dX4_ring_45 : decode cX4_ring 45 = .ok (.goto 6, 3) := by decide +kernel
theorem dX4_ring_48 : decode cX4_ring 48 = .ok (.iload 4, 2) := by decide +kernel
theorem dX4_ring_50 : decode cX4_ring 50 = .ok (.ineg, 1) := by decide +kernel
theorem dX4_ring_51 : decode cX4_ring 51 = .ok (.istore 5, 2) := by decide +kernel
theorem dX4_ring_53 : decode cX4_ring 53 = .ok (.iconst 0, 1) := by decide +kernel
theorem dX4_ring_54 : decode cX4_ring 54 = .ok (.istore 6, 2) := by decide +kernel
theorem dX4_ring_56 : decode cX4_ring 56 = .ok (.iload 6, 2) := by decide +kernel
theorem dX4_ring_58 : decode cX4_ring 58 = .ok (.aload_n 0, 1) := by decide +kernel
theorem dX4_ring_59 : decode cX4_ring 59 = .ok (.getfield 3, 3) := by decide +kernel
theorem dX4_ring_62 : decode cX4_ring 62 = .ok (.getfield 42, 3) := by decide +kernel
theorem dX4_ring_65 : decode cX4_ring 65 = .ok (.if_icmp .ge 183, 3) := by decide +kernel
theorem dX4_ring_68 : decode cX4_ring 68 = .ok (.aload_n 0, 1) := by decide +kernel
theorem dX4_ring_69 : decode cX4_ring 69 = .ok (.getfield 25, 3) := by decide +kernel
theorem dX4_ring_72 : decode cX4_ring 72 = .ok (.iload 6, 2) := by decide +kernel
theorem dX4_ring_74 : decode cX4_ring 74 = .ok (.iaload, 1) := by decide +kernel
theorem dX4_ring_75 : decode cX4_ring 75 = .ok (.ifCond .lt 167, 3) := by decide +kernel
theorem dX4_ring_78 : decode cX4_ring 78 = .ok (.aload_n 0, 1) := by decide +kernel
theorem dX4_ring_79 : decode cX4_ring 79 = .ok (.getfield 25, 3) := by decide +kernel
theorem dX4_ring_82 : decode cX4_ring 82 = .ok (.iload 6, 2) := by decide +kernel
theorem dX4_ring_84 : decode cX4_ring 84 = .ok (.iaload, 1) := by decide +kernel
theorem dX4_ring_85 : decode cX4_ring 85 = .ok (.bipush 6, 2) := by decide +kernel
theorem dX4_ring_87 : decode cX4_ring 87 = .ok (.idiv, 1) := by decide +kernel
theorem dX4_ring_88 : decode cX4_ring 88 = .ok (.iload_n 1, 1) := by decide +kernel
theorem dX4_ring_89 : decode cX4_ring 89 = .ok (.if_icmp .eq 6, 3) := by decide +kernel
theorem dX4_ring_92 : decode cX4_ring 92 = .ok (.goto 150, 3) := by decide +kernel
theorem dX4_ring_95 : decode cX4_ring 95 = .ok (.iconst 0, 1) := by decide +kernel
theorem dX4_ring_96 : decode cX4_ring 96 = .ok (.istore 7, 2) := by decide +kernel
theorem dX4_ring_98 : decode cX4_ring 98 = .ok (.iconst 1, 1) := by decide +kernel
theorem dX4_ring_99 : decode cX4_ring 99 = .ok (.istore 8, 2) := by decide +kernel
theorem dX4_ring_101 : decode cX4_ring 101 = .ok (.iload 8, 2) := by decide +kernel
theorem dX4_ring_103 : decode cX4_ring 103 = .ok (.aload_n 0, 1) := by decide +kernel
theorem dX4_ring_104 : decode cX4_ring 104 = .ok (.getfield 3, 3) := by decide +kernel
theorem dX4_ring_107 : decode cX4_ring 107 = .ok (.getfield 69, 3) := by decide +kernel
theorem dX4_ring_110 : decode cX4_ring 110 = .ok (.if_icmp .gt 91, 3) := by decide +kernel
theorem dX4_ring_113 : decode cX4_ring 113 = .ok (.aload_n 0, 1) := by decide +kernel
theorem dX4_ring_114 : decode cX4_ring 114 = .ok (.getfield 3, 3) := by decide +kernel
theorem dX4_ring_117 : decode cX4_ring 117 = .ok (.getfield 72, 3) := by decide +kernel
theorem dX4_ring_120 : decode cX4_ring 120 = .ok (.iload 8, 2) := by decide +kernel
theorem dX4_ring_122 : decode cX4_ring 122 = .ok (.iaload, 1) := by decide +kernel
theorem dX4_ring_123 : decode cX4_ring 123 = .ok (.aload_n 0, 1) := by decide +kernel
theorem dX4_ring_124 : decode cX4_ring 124 = .ok (.getfield 25, 3) := by decide +kernel
theorem dX4_ring_127 : decode cX4_ring 127 = .ok (.iload 6, 2) := by decide +kernel
theorem dX4_ring_129 : decode cX4_ring 129 = .ok (.iaload, 1) := by decide +kernel
theorem dX4_ring_130 : decode cX4_ring 130 = .ok (.bipush 6, 2) := by decide +kernel
theorem dX4_ring_132 : decode cX4_ring 132 = .ok (.irem, 1) := by decide +kernel
theorem dX4_ring_133 : decode cX4_ring 133 = .ok (.ishr, 1) := by decide +kernel
theorem dX4_ring_134 : decode cX4_ring 134 = .ok (.iconst 1, 1) := by decide +kernel
theorem dX4_ring_135 : decode cX4_ring 135 = .ok (.iand, 1) := by decide +kernel
theorem dX4_ring_136 : decode cX4_ring 136 = .ok (.ifCond .ne 6, 3) := by decide +kernel
theorem dX4_ring_139 : decode cX4_ring 139 = .ok (.goto 56, 3) := by decide +kernel
theorem dX4_ring_142 : decode cX4_ring 142 = .ok (.aload_n 0, 1) := by decide +kernel
theorem dX4_ring_143 : decode cX4_ring 143 = .ok (.getfield 19, 3) := by decide +kernel
theorem dX4_ring_146 : decode cX4_ring 146 = .ok (.iload 6, 2) := by decide +kernel
theorem dX4_ring_148 : decode cX4_ring 148 = .ok (.bipush 20, 2) := by decide +kernel
theorem dX4_ring_150 : decode cX4_ring 150 = .ok (.aload_n 0, 1) := by decide +kernel
theorem dX4_ring_151 : decode cX4_ring 151 = .ok (.getfield 19, 3) := by decide +kernel
theorem dX4_ring_154 : decode cX4_ring 154 = .ok (.iload 6, 2) := by decide +kernel
theorem dX4_ring_156 : decode cX4_ring 156 = .ok (.iaload, 1) := by decide +kernel
theorem dX4_ring_157 : decode cX4_ring 157 = .ok (.iconst 1, 1) := by decide +kernel
theorem dX4_ring_158 : decode cX4_ring 158 = .ok (.iadd, 1) := by decide +kernel
theorem dX4_ring_159 : decode cX4_ring 159 = .ok (.invokestatic 75, 3) := by decide +kernel
theorem dX4_ring_162 : decode cX4_ring 162 = .ok (.iastore, 1) := by decide +kernel
theorem dX4_ring_163 : decode cX4_ring 163 = .ok (.iload 7, 2) := by decide +kernel
theorem dX4_ring_165 : decode cX4_ring 165 = .ok (.aload_n 0, 1) := by decide +kernel
theorem dX4_ring_166 : decode cX4_ring 166 = .ok (.getfield 19, 3) := by decide +kernel
theorem dX4_ring_169 : decode cX4_ring 169 = .ok (.iload 6, 2) := by decide +kernel
theorem dX4_ring_171 : decode cX4_ring 171 = .ok (.iaload, 1) := by decide +kernel
theorem dX4_ring_172 : decode cX4_ring 172 = .ok (.iconst 2, 1) := by decide +kernel
theorem dX4_ring_173 : decode cX4_ring 173 = .ok (.aload_n 0, 1) := by decide +kernel
theorem dX4_ring_174 : decode cX4_ring 174 = .ok (.getfield 3, 3) := by decide +kernel
theorem dX4_ring_177 : decode cX4_ring 177 = .ok (.getfield 81, 3) := by decide +kernel
theorem dX4_ring_180 : decode cX4_ring 180 = .ok (.iload 6, 2) := by decide +kernel
theorem dX4_ring_182 : decode cX4_ring 182 = .ok (.iaload, 1) := by decide +kernel
theorem dX4_ring_183 : decode cX4_ring 183 = .ok (.imul, 1) := by decide +kernel
theorem dX4_ring_184 : decode cX4_ring 184 = .ok (.if_icmp .le 7, 3) := by decide +kernel
theorem dX4_ring_187 : decode cX4_ring 187 = .ok (.iconst 1, 1) := by decide +kernel
theorem dX4_ring_188 : decode cX4_ring 188 = .ok (.goto 4, 3) := by decide +kernel
theorem dX4_ring_191 : decode cX4_ring 191 = .ok (.iconst 0, 1) := by decide +kernel
theorem dX4_ring_192 : decode cX4_ring 192 = .ok (.iadd, 1) := by decide +kernel
theorem dX4_ring_193 : decode cX4_ring 193 = .ok (.istore 7, 2) := by decide +kernel
theorem dX4_ring_195 : decode cX4_ring 195 = .ok (.iinc 8 1, 3) := by decide +kernel
theorem dX4_ring_198 : decode cX4_ring 198 = .ok (.goto (-97), 3) := by decide +kernel
theorem dX4_ring_201 : decode cX4_ring 201 = .ok (.aload_n 0, 1) := by decide +kernel
theorem dX4_ring_202 : decode cX4_ring 202 = .ok (.getfield 22, 3) := by decide +kernel
theorem dX4_ring_205 : decode cX4_ring 205 = .ok (.iload 6, 2) := by decide +kernel
theorem dX4_ring_207 : decode cX4_ring 207 = .ok (.dup2, 1) := by decide +kernel
theorem dX4_ring_208 : decode cX4_ring 208 = .ok (.iaload, 1) := by decide +kernel
theorem dX4_ring_209 : decode cX4_ring 209 = .ok (.iload 7, 2) := by decide +kernel
theorem dX4_ring_211 : decode cX4_ring 211 = .ok (.iadd, 1) := by decide +kernel
theorem dX4_ring_212 : decode cX4_ring 212 = .ok (.iastore, 1) := by decide +kernel
theorem dX4_ring_213 : decode cX4_ring 213 = .ok (.aload_n 0, 1) := by decide +kernel
theorem dX4_ring_214 : decode cX4_ring 214 = .ok (.getfield 15, 3) := by decide +kernel
theorem dX4_ring_217 : decode cX4_ring 217 = .ok (.iload 6, 2) := by decide +kernel
theorem dX4_ring_219 : decode cX4_ring 219 = .ok (.iconst 0, 1) := by decide +kernel
theorem dX4_ring_220 : decode cX4_ring 220 = .ok (.bipush 99, 2) := by decide +kernel
theorem dX4_ring_222 : decode cX4_ring 222 = .ok (.aload_n 0, 1) := by decide +kernel
theorem dX4_ring_223 : decode cX4_ring 223 = .ok (.getfield 15, 3) := by decide +kernel
theorem dX4_ring_226 : decode cX4_ring 226 = .ok (.iload 6, 2) := by decide +kernel
theorem dX4_ring_228 : decode cX4_ring 228 = .ok (.iaload, 1) := by decide +kernel
theorem dX4_ring_229 : decode cX4_ring 229 = .ok (.iload 5, 2) := by decide +kernel
theorem dX4_ring_231 : decode cX4_ring 231 = .ok (.iadd, 1) := by decide +kernel
theorem dX4_ring_232 : decode cX4_ring 232 = .ok (.iload 7, 2) := by decide +kernel
theorem dX4_ring_234 : decode cX4_ring 234 = .ok (.isub, 1) := by decide +kernel
theorem dX4_ring_235 : decode cX4_ring 235 = .ok (.invokestatic 75, 3) := by decide +kernel
theorem dX4_ring_238 : decode cX4_ring 238 = .ok (.invokestatic 84, 3) := by decide +kernel
theorem dX4_ring_241 : decode cX4_ring 241 = .ok (.iastore, 1) := by decide +kernel
theorem dX4_ring_242 : decode cX4_ring 242 = .ok (.iinc 6 1, 3) := by decide +kernel
theorem dX4_ring_245 : decode cX4_ring 245 = .ok (.goto (-189), 3) := by decide +kernel
theorem dX4_ring_248 : decode cX4_ring 248 = .ok (.iload 4, 2) := by decide +kernel
theorem dX4_ring_250 : decode cX4_ring 250 = .ok (.ireturn, 1) := by decide +kernel
theorem dX4_pass_0 : decode cX4_pass 0 = .ok (.iconst 0, 1) := by decide +kernel
theorem dX4_pass_1 : decode cX4_pass 1 = .ok (.istore_n 1, 1) := by decide +kernel
theorem dX4_pass_2 : decode cX4_pass 2 = .ok (.iload_n 1, 1) := by decide +kernel
theorem dX4_pass_3 : decode cX4_pass 3 = .ok (.aload_n 0, 1) := by decide +kernel
theorem dX4_pass_4 : decode cX4_pass 4 = .ok (.getfield 3, 3) := by decide +kernel
theorem dX4_pass_7 : decode cX4_pass 7 = .ok (.getfield 42, 3) := by decide +kernel
theorem dX4_pass_10 : decode cX4_pass 10 = .ok (.if_icmp .ge 40, 3) := by decide +kernel
theorem dX4_pass_13 : decode cX4_pass 13 = .ok (.aload_n 0, 1) := by decide +kernel
theorem dX4_pass_14 : decode cX4_pass 14 = .ok (.getfield 19, 3) := by decide +kernel
theorem dX4_pass_17 : decode cX4_pass 17 = .ok (.iload_n 1, 1) := by decide +kernel
theorem dX4_pass_18 : decode cX4_pass 18 = .ok (.iconst 0, 1) := by decide +kernel
theorem dX4_pass_19 : decode cX4_pass 19 = .ok (.aload_n 0, 1) := by decide +kernel
theorem dX4_pass_20 : decode cX4_pass 20 = .ok (.getfield 19, 3) := by decide +kernel
theorem dX4_pass_23 : decode cX4_pass 23 = .ok (.iload_n 1, 1) := by decide +kernel
theorem dX4_pass_24 : decode cX4_pass 24 = .ok (.iaload, 1) := by decide +kernel
theorem dX4_pass_25 : decode cX4_pass 25 = .ok (.aload_n 0, 1) := by decide +kernel
theorem dX4_pass_26 : decode cX4_pass 26 = .ok (.getfield 25, 3) := by decide +kernel
theorem dX4_pass_29 : decode cX4_pass 29 = .ok (.iload_n 1, 1) := by decide +kernel
theorem dX4_pass_30 : decode cX4_pass 30 = .ok (.iaload, 1) := by decide +kernel
theorem dX4_pass_31 : decode cX4_pass 31 = .ok (.ifCond .lt 7, 3) := by decide +kernel
theorem dX4_pass_34 : decode cX4_pass 34 = .ok (.iconst 3, 1) := by decide +kernel
theorem dX4_pass_35 : decode cX4_pass 35 = .ok (.goto 4, 3) := by decide +kernel
theorem dX4_pass_38 : decode cX4_pass 38 = .ok (.iconst 5, 1) := by decide +kernel
theorem dX4_pass_39 : decode cX4_pass 39 = .ok (.isub, 1) := by decide +kernel
theorem dX4_pass_40 : decode cX4_pass 40 = .ok (.invokestatic 84, 3) := by decide +kernel
theorem dX4_pass_43 : decode cX4_pass 43 = .ok (.iastore, 1) := by decide +kernel
theorem dX4_pass_44 : decode cX4_pass 44 = .ok (.iinc 1 1, 3) := by decide +kernel
theorem dX4_pass_47 : decode cX4_pass 47 = .ok (.goto (-45), 3) := by decide +kernel
theorem dX4_pass_50 : decode cX4_pass 50 = .ok (.iconst 0, 1) := by decide +kernel
theorem dX4_pass_51 : decode cX4_pass 51 = .ok (.istore_n 1, 1) := by decide +kernel
theorem dX4_pass_52 : decode cX4_pass 52 = .ok (.iload_n 1, 1) := by decide +kernel
theorem dX4_pass_53 : decode cX4_pass 53 = .ok (.iconst 3, 1) := by decide +kernel
theorem dX4_pass_54 : decode cX4_pass 54 = .ok (.if_icmp .ge 27, 3) := by decide +kernel
theorem dX4_pass_57 : decode cX4_pass 57 = .ok (.aload_n 0, 1) := by decide +kernel
theorem dX4_pass_58 : decode cX4_pass 58 = .ok (.getfield 34, 3) := by decide +kernel
theorem dX4_pass_61 : decode cX4_pass 61 = .ok (.bipush 7, 2) := by decide +kernel
theorem dX4_pass_63 : decode cX4_pass 63 = .ok (.irem, 1) := by decide +kernel
theorem dX4_pass_64 : decode cX4_pass 64 = .ok (.bipush 6, 2) := by decide +kernel
theorem dX4_pass_66 : decode cX4_pass 66 = .ok (.if_icmp .ne 15, 3) := by decide +kernel
theorem dX4_pass_69 : decode cX4_pass 69 = .ok (.aload_n 0, 1) := by decide +kernel
theorem dX4_pass_70 : decode cX4_pass 70 = .ok (.iload_n 1, 1) := by decide +kernel
theorem dX4_pass_71 : decode cX4_pass 71 = .ok (.invokevirtual 87, 3) := by decide +kernel
theorem dX4_pass_74 : decode cX4_pass 74 = .ok (.pop, 1) := by decide +kernel
theorem dX4_pass_75 : decode cX4_pass 75 = .ok (.iinc 1 1, 3) := by decide +kernel
theorem dX4_pass_78 : decode cX4_pass 78 = .ok (.goto (-26), 3) := by decide +kernel
theorem dX4_pass_81 : decode cX4_pass 81 = .ok (.aload_n 0, 1) := by decide +kernel
theorem dX4_pass_82 : decode cX4_pass 82 = .ok (.dup, 1) := by decide +kernel
theorem dX4_pass_83 : decode cX4_pass 83 = .ok (.getfield 34, 3) := by decide +kernel
theorem dX4_pass_86 : decode cX4_pass 86 = .ok (.iconst 1, 1) := by decide +kernel
theorem dX4_pass_87 : decode cX4_pass 87 = .ok (.iadd, 1) := by decide +kernel
theorem dX4_pass_88 : decode cX4_pass 88 = .ok (.putfield 34, 3) := by decide +kernel
theorem dX4_pass_91 : decode cX4_pass 91 = .ok (.return_, 1) := by decide +kernel
theorem dX4_pass__0 : decode cX4_pass_ 0 = .ok (.iconst 0, 1) := by decide +kernel
theorem dX4_pass__1 : decode cX4_pass_ 1 = .ok (.istore_n 2, 1) := by decide +kernel
theorem dX4_pass__2 : decode cX4_pass_ 2 = .ok (.iload_n 2, 1) := by decide +kernel
theorem dX4_pass__3 : decode cX4_pass_ 3 = .ok (.iload_n 1, 1) := by decide +kernel
theorem dX4_pass__4 : decode cX4_pass_ 4 = .ok (.if_icmp .ge 13, 3) := by decide +kernel
theorem dX4_pass__7 : decode cX4_pass_ 7 = .ok (.aload_n 0, 1) := by decide +kernel
theorem dX4_pass__8 : decode cX4_pass_ 8 = .ok (.invokevirtual 91, 3) := by decide +kernel
theorem dX4_pass__11 : decode cX4_pass_ 11 = .ok (.iinc 2 1, 3) := by decide +kernel
theorem dX4_pass__14 : decode cX4_pass_ 14 = .ok (.goto (-12), 3) := by decide +kernel
theorem dX4_pass__17 : decode cX4_pass_ 17 = .ok (.return_, 1) := by decide +kernel
theorem dX4_allVotes_0 : decode cX4_allVotes 0 = .ok (.iconst 0, 1) := by decide +kernel
theorem dX4_allVotes_1 : decode cX4_allVotes 1 = .ok (.istore_n 1, 1) := by decide +kernel
theorem dX4_allVotes_2 : decode cX4_allVotes 2 = .ok (.iconst 0, 1) := by decide +kernel
theorem dX4_allVotes_3 : decode cX4_allVotes 3 = .ok (.istore_n 2, 1) := by decide +kernel
theorem dX4_allVotes_4 : decode cX4_allVotes 4 = .ok (.iload_n 2, 1) := by decide +kernel
theorem dX4_allVotes_5 : decode cX4_allVotes 5 = .ok (.aload_n 0, 1) := by decide +kernel
theorem dX4_allVotes_6 : decode cX4_allVotes 6 = .ok (.getfield 3, 3) := by decide +kernel
theorem dX4_allVotes_9 : decode cX4_allVotes 9 = .ok (.getfield 42, 3) := by decide +kernel
theorem dX4_allVotes_12 : decode cX4_allVotes 12 = .ok (.if_icmp .ge 18, 3) := by decide +kernel
theorem dX4_allVotes_15 : decode cX4_allVotes 15 = .ok (.iload_n 1, 1) := by decide +kernel
theorem dX4_allVotes_16 : decode cX4_allVotes 16 = .ok (.aload_n 0, 1) := by decide +kernel
theorem dX4_allVotes_17 : decode cX4_allVotes 17 = .ok (.getfield 15, 3) := by decide +kernel
theorem dX4_allVotes_20 : decode cX4_allVotes 20 = .ok (.iload_n 2, 1) := by decide +kernel
theorem dX4_allVotes_21 : decode cX4_allVotes 21 = .ok (.iaload, 1) := by decide +kernel
theorem dX4_allVotes_22 : decode cX4_allVotes 22 = .ok (.iadd, 1) := by decide +kernel
theorem dX4_allVotes_23 : decode cX4_allVotes 23 = .ok (.istore_n 1, 1) := by decide +kernel
theorem dX4_allVotes_24 : decode cX4_allVotes 24 = .ok (.iinc 2 1, 3) := by decide +kernel
theorem dX4_allVotes_27 : decode cX4_allVotes 27 = .ok (.goto (-23), 3) := by decide +kernel
theorem dX4_allVotes_30 : decode cX4_allVotes 30 = .ok (.iload_n 1, 1) := by decide +kernel
theorem dX4_allVotes_31 : decode cX4_allVotes 31 = .ok (.ireturn, 1) := by decide +kernel
theorem dX5_init_0 : decode cX5_init 0 = .ok (.aload_n 0, 1) := by decide +kernel
theorem dX5_init_1 : decode cX5_init 1 = .ok (.invokespecial 1, 3) := by decide +kernel
theorem dX5_init_4 : decode cX5_init 4 = .ok (.aload_n 0, 1) := by decide +kernel
theorem dX5_init_5 : decode cX5_init 5 = .ok (.bipush 20, 2) := by decide +kernel
theorem dX5_init_7 : decode cX5_init 7 = .ok (.newarray .int, 2) := by decide +kernel
theorem dX5_init_9 : decode cX5_init 9 = .ok (.putfield 9, 3) := by decide +kernel
theorem dX5_init_12 : decode cX5_init 12 = .ok (.aload_n 0, 1) := by decide +kernel
theorem dX5_init_13 : decode cX5_init 13 = .ok (.bipush 20, 2) := by decide +kernel
theorem dX5_init_15 : decode cX5_init 15 = .ok (.newarray .int, 2) := by decide +kernel
theorem dX5_init_17 : decode cX5_init 17 = .ok (.putfield 13, 3) := by decide +kernel
theorem dX5_init_20 : decode cX5_init 20 = .ok (.aload_n 0, 1) := by decide +kernel
theorem dX5_init_21 : decode cX5_init 21 = .ok (.bipush 18, 2) := by decide +kernel
theorem dX5_init_23 : decode cX5_init 23 = .ok (.newarray .int, 2) := by decide +kernel
theorem dX5_init_25 : decode cX5_init 25 = .ok (.putfield 16, 3) := by decide +kernel
theorem dX5_init_28 : decode cX5_init 28 = .ok (.aload_n 0, 1) := by decide +kernel
theorem dX5_init_29 : decode cX5_init 29 = .ok (.iconst 5, 1) := by decide +kernel
theorem dX5_init_30 : decode cX5_init 30 = .ok (.newarray .int, 2) := by decide +kernel
theorem dX5_init_32 : decode cX5_init 32 = .ok (.putfield 19, 3) := by decide +kernel
theorem dX5_init_35 : decode cX5_init 35 = .ok (.aload_n 0, 1) := by decide +kernel
theorem dX5_init_36 : decode cX5_init 36 = .ok (.bipush 60, 2) := by decide +kernel
theorem dX5_init_38 : decode cX5_init 38 = .ok (.newarray .int, 2) := by decide +kernel
theorem dX5_init_40 : decode cX5_init 40 = .ok (.putfield 22, 3) := by decide +kernel
theorem dX5_init_43 : decode cX5_init 43 = .ok (.aload_n 0, 1) := by decide +kernel
theorem dX5_init_44 : decode cX5_init 44 = .ok (.sipush 201, 3) := by decide +kernel
theorem dX5_init_47 : decode cX5_init 47 = .ok (.newarray .int, 2) := by decide +kernel
theorem dX5_init_49 : decode cX5_init 49 = .ok (.putfield 25, 3) := by decide +kernel
theorem dX5_init_52 : decode cX5_init 52 = .ok (.aload_n 0, 1) := by decide +kernel
theorem dX5_init_53 : decode cX5_init 53 = .ok (.sipush 201, 3) := by decide +kernel
theorem dX5_init_56 : decode cX5_init 56 = .ok (.newarray .int, 2) := by decide +kernel
theorem dX5_init_58 : decode cX5_init 58 = .ok (.putfield 28, 3) := by decide +kernel
theorem dX5_init_61 : decode cX5_init 61 = .ok (.aload_n 0, 1) := by decide +kernel
theorem dX5_init_62 : decode cX5_init 62 = .ok (.bipush 6, 2) := by decide +kernel
theorem dX5_init_64 : decode cX5_init 64 = .ok (.newarray .int, 2) := by decide +kernel
theorem dX5_init_66 : decode cX5_init 66 = .ok (.putfield 31, 3) := by decide +kernel
theorem dX5_init_69 : decode cX5_init 69 = .ok (.aload_n 0, 1) := by decide +kernel
theorem dX5_init_70 : decode cX5_init 70 = .ok (.bipush 6, 2) := by decide +kernel
theorem dX5_init_72 : decode cX5_init 72 = .ok (.newarray .int, 2) := by decide +kernel
theorem dX5_init_74 : decode cX5_init 74 = .ok (.putfield 34, 3) := by decide +kernel
theorem dX5_init_77 : decode cX5_init 77 = .ok (.aload_n 0, 1) := by decide +kernel
theorem dX5_init_78 : decode cX5_init 78 = .ok (.bipush 6, 2) := by decide +kernel
theorem dX5_init_80 : decode cX5_init 80 = .ok (.newarray .int, 2) := by decide +kernel
theorem dX5_init_82 : decode cX5_init 82 = .ok (.putfield 37, 3) := by decide +kernel
theorem dX5_init_85 : decode cX5_init 85 = .ok (.aload_n 0, 1) := by decide +kernel
theorem dX5_init_86 : decode cX5_init 86 = .ok (.new 40, 3) := by decide +kernel
theorem dX5_init_89 : decode cX5_init 89 = .ok (.dup, 1) := by decide +kernel
theorem dX5_init_90 : decode cX5_init 90 = .ok (.aload_n 0, 1) := by decide +kernel
theorem dX5_init_91 : decode cX5_init 91 = .ok (.invokespecial 42, 3) := by decide +kernel
theorem dX5_init_94 : decode cX5_init 94 = .ok (.putfield 45, 3) := by decide +kernel
theorem dX5_init_97 : decode cX5_init 97 = .ok (.aload_n 0, 1) := by decide +kernel
theorem dX5_init_98 : decode cX5_init 98 = .ok (.new 40, 3) := by decide +kernel
theorem dX5_init_101 : decode cX5_init 101 = .ok (.dup, 1) := by decide +kernel
theorem dX5_init_102 : decode cX5_init 102 = .ok (.aload_n 0, 1) := by decide +kernel
theorem dX5_init_103 : decode cX5_init 103 = .ok (.invokespecial 42, 3) := by decide +kernel
theorem dX5_init_106 : decode cX5_init 106 = .ok (.putfield 49, 3) := by decide +kernel
theorem dX5_init_109 : decode cX5_init 109 = .ok (.iconst 0, 1) := by decide +kernel
theorem dX5_init_110 : decode cX5_init 110 = .ok (.istore_n 1, 1) := by decide +kernel
theorem dX5_init_111 : decode cX5_init 111 = .ok (.iload_n 1, 1) := by decide +kernel
theorem dX5_init_112 : decode cX5_init 112 = .ok (.aload_n 0, 1) := by decide +kernel
theorem dX5_init_113 : decode cX5_init 113 = .ok (.getfield 16, 3) := by decide +kernel
theorem dX5_init_116 : decode cX5_init 116 = .ok (.arraylength, 1) := by decide +kernel
theorem dX5_init_117 : decode cX5_init 117 = .ok (.if_icmp .ge 21, 3) := by decide +kernel
theorem dX5_init_120 : decode cX5_init 120 = .ok (.aload_n 0, 1) := by decide +kernel
theorem dX5_init_121 : decode cX5_init 121 = .ok (.getfield 16, 3) := by decide +kernel
theorem dX5_init_124 : decode cX5_init 124 = .ok (.iload_n 1, 1) := by decide +kernel
theorem dX5_init_125 : decode cX5_init 125 = .ok (.iload_n 1, 1) := by decide +kernel
theorem dX5_init_126 : decode cX5_init 126 = .ok (.bipush 6, 2) := by decide +kernel
theorem dX5_init_128 : decode cX5_init 128 = .ok (.irem, 1) := by decide +kernel
theorem dX5_init_129 : decode cX5_init 129 = .ok (.iconst 4, 1) := by decide +kernel
theorem dX5_init_130 : decode cX5_init 130 = .ok (.irem, 1) := by decide +kernel
theorem dX5_init_131 : decode cX5_init 131 = .ok (.iastore, 1) := by decide +kernel
theorem dX5_init_132 : decode cX5_init 132 = .ok (.iinc 1 1, 3) := by decide +kernel
theorem dX5_init_135 : decode cX5_init 135 = .ok (.goto (-24), 3) := by decide +kernel
theorem dX5_init_138 : decode cX5_init 138 = .ok (.return_, 1) := by decide +kernel
theorem dX5_thrown_0 : decode cX5_thrown 0 = .ok (.aload_n 0, 1) := by decide +kernel
theorem dX5_thrown_1 : decode cX5_thrown 1 = .ok (.getfield 52, 3) := by decide +kernel
theorem dX5_thrown_4 : decode cX5_thrown 4 = .ok (.ireturn, 1) := by decide +kernel
theorem dX5_no_0 : decode cX5_no 0 = .ok (.aload_n 0, 1) := by decide +kernel
theorem dX5_no_1 : decode cX5_no 1 = .ok (.iload_n 1, 1) := by decide +kernel
theorem dX5_no_2 : decode cX5_no 2 = .ok (.putfield 52, 3) := by decide +kernel
theorem dX5_no_5 : decode cX5_no 5 = .ok (.iconst 0, 1) := by decide +kernel
theorem dX5_no_6 : decode cX5_no 6 = .ok (.ireturn, 1) := by decide +kernel
theorem dX5_isIn_0 : decode cX5_isIn 0 = .ok (.iload_n 0, 1) := by decide +kernel
theorem dX5_isIn_1 : decode cX5_isIn 1 = .ok (.iload_n 1, 1) := by decide +kernel
theorem dX5_isIn_2 : decode cX5_isIn 2 = .ok (.if_icmp .lt 12, 3) := by decide +kernel
theorem dX5_isIn_5 : decode cX5_isIn 5 = .ok (.iload_n 0, 1) := by decide +kernel
theorem dX5_isIn_6 : decode cX5_isIn 6 = .ok (.iload_n 2, 1) := by decide +kernel
theorem dX5_isIn_7 : decode cX5_isIn 7 = .ok (.if_icmp .gt 7, 3) := by decide +kernel
theorem dX5_isIn_10 : decode cX5_isIn 10 = .ok (.iconst 1, 1) := by decide +kernel
theorem dX5_isIn_11 : decode cX5_isIn 11 = .ok (.goto 4, 3) := by decide +kernel
theorem dX5_isIn_14 : decode cX5_isIn 14 = .ok (.iconst 0, 1) := by decide +kernel
theorem dX5_isIn_15 : decode cX5_isIn 15 = .ok (.ireturn, 1) := by decide +kernel
theorem dX5_isRinger_0 : decode cX5_isRinger 0 = .ok (.iload_n 1, 1) := by decide +kernel
theorem dX5_isRinger_1 : decode cX5_isRinger 1 = .ok (.iconst 0, 1) := by decide +kernel
theorem dX5_isRinger_2 : decode cX5_isRinger 2 = .ok (.aload_n 0, 1) := by decide +kernel
theorem dX5_isRinger_3 : decode cX5_isRinger 3 = .ok (.getfield 56, 3) := by decide +kernel
theorem dX5_isRinger_6 : decode cX5_isRinger 6 = .ok (.iconst 1, 1) := by decide +kernel
theorem dX5_isRinger_7 : decode cX5_isRinger 7 = .ok (.isub, 1) := by decide +kernel
theorem dX5_isRinger_8 : decode cX5_isRinger 8 = .ok (.invokestatic 59, 3) := by decide +kernel
theorem dX5_isRinger_11 : decode cX5_isRinger 11 = .ok (.ireturn, 1) := by decide +kernel
theorem dX5_isSeat_0 : decode cX5_isSeat 0 = .ok (.iload_n 0, 1) := by decide +kernel
theorem dX5_isSeat_1 : decode cX5_isSeat 1 = .ok (.iconst 0, 1) := by decide +kernel
theorem dX5_isSeat_2 : decode cX5_isSeat 2 = .ok (.iconst 2, 1) := by decide +kernel
theorem dX5_isSeat_3 : decode cX5_isSeat 3 = .ok (.invokestatic 59, 3) := by decide +kernel
theorem dX5_isSeat_6 : decode cX5_isSeat 6 = .ok (.ifCond .eq 16, 3) := by decide +kernel
theorem dX5_isSeat_9 : decode cX5_isSeat 9 = .ok (.iload_n 1, 1) := by decide +kernel
theorem dX5_isSeat_10 : decode cX5_isSeat 10 = .ok (.iconst 0, 1) := by decide +kernel
theorem dX5_isSeat_11 : decode cX5_isSeat 11 = .ok (.iconst 5, 1) := by decide +kernel
theorem dX5_isSeat_12 : decode cX5_isSeat 12 = .ok (.invokestatic 59, 3) := by decide +kernel
theorem dX5_isSeat_15 : decode cX5_isSeat 15 = .ok (.ifCond .eq 7, 3) := by decide +kernel
theorem dX5_isSeat_18 : decode cX5_isSeat 18 = .ok (.iconst 1, 1) := by decide +kernel
theorem dX5_isSeat_19 : decode cX5_isSeat 19 = .ok (.goto 4, 3) := by decide +kernel
theorem dX5_isSeat_22 : decode cX5_isSeat 22 = .ok (.iconst 0, 1) := by decide +kernel
theorem dX5_isSeat_23 : decode cX5_isSeat 23 = .ok (.ireturn, 1) := by decide +kernel
theorem dX5_isMethod_0 : decode cX5_isMethod 0 = .ok (.iload_n 1, 1) := by decide +kernel
theorem dX5_isMethod_1 : decode cX5_isMethod 1 = .ok (.iconst 0, 1) := by decide +kernel
theorem dX5_isMethod_2 : decode cX5_isMethod 2 = .ok (.aload_n 0, 1) := by decide +kernel
theorem dX5_isMethod_3 : decode cX5_isMethod 3 = .ok (.getfield 63, 3) := by decide +kernel
theorem dX5_isMethod_6 : decode cX5_isMethod 6 = .ok (.iconst 1, 1) := by decide +kernel
theorem dX5_isMethod_7 : decode cX5_isMethod 7 = .ok (.isub, 1) := by decide +kernel
theorem dX5_isMethod_8 : decode cX5_isMethod 8 = .ok (.invokestatic 59, 3) := by decide +kernel
theorem dX5_isMethod_11 : decode cX5_isMethod 11 = .ok (.ireturn, 1) := by decide +kernel
theorem dX5_code_0 : decode cX5_code 0 = .ok (.iconst 0, 1) := by decide +kernel
theorem dX5_code_1 : decode cX5_code 1 = .ok (.istore_n 1, 1) := by decide +kernel
theorem dX5_code_2 : decode cX5_code 2 = .ok (.aload_n 0, 1) := by decide +kernel
theorem dX5_code_3 : decode cX5_code 3 = .ok (.getfield 31, 3) := by decide +kernel
theorem dX5_code_6 : decode cX5_code 6 = .ok (.astore_n 2, 1) := by decide +kernel
theorem dX5_code_7 : decode cX5_code 7 = .ok (.aload_n 2, 1) := by decide +kernel
theorem dX5_code_8 : decode cX5_code 8 = .ok (.arraylength, 1) := by decide +kernel
theorem dX5_code_9 : decode cX5_code 9 = .ok (.istore_n 3, 1) := by decide +kernel
theorem dX5_code_10 : decode cX5_code 10 = .ok (.iconst 0, 1) := by decide +kernel
theorem dX5_code_11 : decode cX5_code 11 = .ok (.istore 4, 2) := by decide +kernel
theorem dX5_code_13 : decode cX5_code 13 = .ok (.iload 4, 2) := by decide +kernel
theorem dX5_code_15 : decode cX5_code 15 = .ok (.iload_n 3, 1) := by decide +kernel
theorem dX5_code_16 : decode cX5_code 16 = .ok (.if_icmp .ge 23, 3) := by decide +kernel
theorem dX5_code_19 : decode cX5_code 19 = .ok (.aload_n 2, 1) := by decide +kernel
theorem dX5_code_20 : decode cX5_code 20 = .ok (.iload 4, 2) := by decide +kernel
theorem dX5_code_22 : decode cX5_code 22 = .ok (.iaload, 1) := by decide +kernel
theorem dX5_code_23 : decode cX5_code 23 = .ok (.istore 5, 2) := by decide +kernel
theorem dX5_code_25 : decode cX5_code 25 = .ok (.bipush 6, 2) := by decide +kernel
theorem dX5_code_27 : decode cX5_code 27 = .ok (.iload_n 1, 1) := by decide +kernel
theorem dX5_code_28 : decode cX5_code 28 = .ok (.imul, 1) := by decide +kernel
theorem dX5_code_29 : decode cX5_code 29 = .ok (.iload 5, 2) := by decide +kernel
theorem dX5_code_31 : decode cX5_code 31 = .ok (.iadd, 1) := by decide +kernel
theorem dX5_code_32 : decode cX5_code 32 = .ok (.istore_n 1, 1) := by decide +kernel
theorem dX5_code_33 : decode cX5_code 33 = .ok (.iinc 4 1, 3) := by decide +kernel
theorem dX5_code_36 : decode cX5_code 36 = .ok (.goto (-23), 3) := by decide +kernel
theorem dX5_code_39 : decode cX5_code 39 = .ok (.iload_n 1, 1) := by decide +kernel
theorem dX5_code_40 : decode cX5_code 40 = .ok (.ireturn, 1) := by decide +kernel
theorem dX5_walkChanges_0 : decode cX5_walkChanges 0 = .ok (.iconst 0, 1) := by decide +kernel
theorem dX5_walkChanges_1 : decode cX5_walkChanges 1 = .ok (.istore_n 3, 1) := by decide +kernel
theorem dX5_walkChanges_2 : decode cX5_walkChanges 2 = .ok (.iload_n 3, 1) := by decide +kernel
theorem dX5_walkChanges_3 : decode cX5_walkChanges 3 = .ok (.bipush 6, 2) := by decide +kernel
theorem dX5_walkChanges_5 : decode cX5_walkChanges 5 = .ok (.if_icmp .ge 23, 3) := by decide +kernel
theorem dX5_walkChanges_8 : decode cX5_walkChanges 8 = .ok (.aload_n 0, 1) := by decide +kernel
theorem dX5_walkChanges_9 : decode cX5_walkChanges 9 = .ok (.getfield 31, 3) := by decide +kernel
theorem dX5_walkChanges_12 : decode cX5_walkChanges 12 = .ok (.iload_n 3, 1) := by decide +kernel
theorem dX5_walkChanges_13 : decode cX5_walkChanges 13 = .ok (.iload_n 3, 1) := by decide +kernel
theorem dX5_walkChanges_14 : decode cX5_walkChanges 14 = .ok (.iastore, 1) := by decide +kernel
theorem dX5_walkChanges_15 : decode cX5_walkChanges 15 = .ok (.aload_n 0, 1) := by decide +kernel
theorem dX5_walkChanges_16 : decode cX5_walkChanges 16 = .ok (.getfield 37, 3) := by decide +kernel
theorem dX5_walkChanges_19 : decode cX5_walkChanges 19 = .ok (.iload_n 3, 1) := by decide +kernel
theorem dX5_walkChanges_20 : decode cX5_walkChanges 20 = .ok (.iconst 0, 1) := by decide +kernel
theorem dX5_walkChanges_21 : decode cX5_walkChanges 21 = .ok (.iastore, 1) := by decide +kernel
theorem dX5_walkChanges_22 : decode cX5_walkChanges 22 = .ok (.iinc 3 1, 3) := by decide +kernel
theorem dX5_walkChanges_25 : decode cX5_walkChanges 25 = .ok (.goto (-23), 3) := by decide +kernel
theorem dX5_walkChanges_28 : decode cX5_walkChanges 28 = .ok (.aload_n 0, 1) := by decide +kernel
theorem dX5_walkChanges_29 : decode cX5_walkChanges 29 = .ok (.iload_n 2, 1) := by decide +kernel
theorem dX5_walkChanges_30 : decode cX5_walkChanges 30 = .ok (.putfield 66, 3) := by decide +kernel
theorem dX5_walkChanges_33 : decode cX5_walkChanges 33 = .ok (.aload_n 0, 1) := by decide +kernel
theorem dX5_walkChanges_34 : decode cX5_walkChanges 34 = .ok (.getfield 25, 3) := by decide +kernel
theorem dX5_walkChanges_37 : decode cX5_walkChanges 37 = .ok (.iconst 0, 1) := by decide +kernel
theorem dX5_walkChanges_38 : decode cX5_walkChanges 38 = .ok (.sipush 1865, 3) := by decide +kernel
theorem dX5_walkChanges_41 : decode cX5_walkChanges 41 = .ok (.iastore, 1) := by decide +kernel
theorem dX5_walkChanges_42 : decode cX5_walkChanges 42 = .ok (.iconst 1, 1) := by decide +kernel
theorem dX5_walkChanges_43 : decode cX5_walkChanges 43 = .ok (.istore_n 3, 1) := by decide +kernel
theorem dX5_walkChanges_44 : decode cX5_walkChanges 44 = .ok (.iload_n 3, 1) := by decide +kernel
theorem dX5_walkChanges_45 : decode cX5_walkChanges 45 = .ok (.iload_n 2, 1) := by decide +kernel
theorem dX5_walkChanges_46 : decode cX5_walkChanges 46 = .ok (.if_icmp .gt 217, 3) := by decide +kernel
theorem dX5_walkChanges_49 : decode cX5_walkChanges 49 = .ok (.aload_n 0, 1) := by decide +kernel
theorem dX5_walkChanges_50 : decode cX5_walkChanges 50 = .ok (.getfield 22, 3) := by decide +kernel
theorem dX5_walkChanges_53 : decode cX5_walkChanges 53 = .ok (.bipush 12, 2) := by decide +kernel
theorem dX5_walkChanges_55 : decode cX5_walkChanges 55 = .ok (.iload_n 1, 1) := by decide +kernel
theorem dX5_walkChanges_56 : decode cX5_walkChanges 56 = .ok (.imul, 1) := by decide +kernel
theorem dX5_walkChanges_57 : decode cX5_walkChanges 57 = .ok (.iload_n 3, 1) := by decide +kernel
theorem dX5_walkChanges_58 : decode cX5_walkChanges 58 = .ok (.iconst 1, 1) := by decide +kernel
theorem dX5_walkChanges_59 : decode cX5_walkChanges 59 = .ok (.isub, 1) := by decide +kernel
theorem dX5_walkChanges_60 : decode cX5_walkChanges 60 = .ok (.aload_n 0, 1) := by decide +kernel
theorem dX5_walkChanges_61 : decode cX5_walkChanges 61 = .ok (.getfield 19, 3) := by decide +kernel
theorem dX5_walkChanges_64 : decode cX5_walkChanges 64 = .ok (.iload_n 1, 1) := by decide +kernel
theorem dX5_walkChanges_65 : decode cX5_walkChanges 65 = .ok (.iaload, 1) := by decide +kernel
theorem dX5_walkChanges_66 : decode cX5_walkChanges 66 = .ok (.irem, 1) := by decide +kernel
theorem dX5_walkChanges_67 : decode cX5_walkChanges 67 = .ok (.iadd, 1) := by decide +kernel
theorem dX5_walkChanges_68 : decode cX5_walkChanges 68 = .ok (.iaload, 1) := by decide +kernel
theorem dX5_walkChanges_69 : decode cX5_walkChanges 69 = .ok (.istore 4, 2) := by decide +kernel
theorem dX5_walkChanges_71 : decode cX5_walkChanges 71 = .ok (.iconst 0, 1) := by decide +kernel
theorem dX5_walkChanges_72 : decode cX5_walkChanges 72 = .ok (.istore 5, 2) := by decide +kernel
theorem dX5_walkChanges_74 : decode cX5_walkChanges 74 = .ok (.iload 5, 2) := by decide +kernel
theorem dX5_walkChanges_76 : decode cX5_walkChanges 76 = .ok (.bipush 6, 2) := by decide +kernel
theorem dX5_walkChanges_78 : decode cX5_walkChanges 78 = .ok (.if_icmp .ge 17, 3) := by decide +kernel
theorem dX5_walkChanges_81 : decode cX5_walkChanges 81 = .ok (.aload_n 0, 1) := by decide +kernel
theorem dX5_walkChanges_82 : decode cX5_walkChanges 82 = .ok (.getfield 34, 3) := by decide +kernel
theorem dX5_walkChanges_85 : decode cX5_walkChanges 85 = .ok (.iload 5, 2) := by decide +kernel
theorem dX5_walkChanges_87 : decode cX5_walkChanges 87 = .ok (.iconst 0, 1) := by decide +kernel
theorem dX5_walkChanges_88 : decode cX5_walkChanges 88 = .ok (.iastore, 1) := by decide +kernel
theorem dX5_walkChanges_89 : decode cX5_walkChanges 89 = .ok (.iinc 5 1, 3) := by decide +kernel
theorem dX5_walkChanges_92 : decode cX5_walkChanges 92 = .ok (.goto (-18), 3) := by decide +kernel
theorem dX5_walkChanges_95 : decode cX5_walkChanges 95 = .ok (.aload_n 0, 1) := by decide +kernel
theorem dX5_walkChanges_96 : decode cX5_walkChanges 96 = .ok (.getfield 28, 3) := by decide +kernel
theorem dX5_walkChanges_99 : decode cX5_walkChanges 99 = .ok (.iload_n 3, 1) := by decide +kernel
theorem dX5_walkChanges_100 : decode cX5_walkChanges 100 = .ok (.iconst 0, 1) := by decide +kernel
theorem dX5_walkChanges_101 : decode cX5_walkChanges 101 = .ok (.iastore, 1) := by decide +kernel
theorem dX5_walkChanges_102 : decode cX5_walkChanges 102 = .ok (.iconst 0, 1) := by decide +kernel
theorem dX5_walkChanges_103 : decode cX5_walkChanges 103 = .ok (.istore 5, 2) := by decide +kernel
theorem dX5_walkChanges_105 : decode cX5_walkChanges 105 = .ok (.iload 5, 2) := by decide +kernel
theorem dX5_walkChanges_107 : decode cX5_walkChanges 107 = .ok (.iconst 5, 1) := by decide +kernel
theorem dX5_walkChanges_108 : decode cX5_walkChanges 108 = .ok (.if_icmp .ge 78, 3) := by decide +kernel
theorem dX5_walkChanges_111 : decode cX5_walkChanges 111 = .ok (.iload 4, 2) := by decide +kernel
theorem dX5_walkChanges_113 : decode cX5_walkChanges 113 = .ok (.iload 5, 2) := by decide +kernel
theorem dX5_walkChanges_115 : decode cX5_walkChanges 115 = .ok (.ishr, 1) := by decide +kernel
theorem dX5_walkChanges_116 : decode cX5_walkChanges 116 = .ok (.iconst 1, 1) := by decide +kernel
theorem dX5_walkChanges_117 : decode cX5_walkChanges 117 = .ok (.iand, 1) := by decide +kernel
theorem dX5_walkChanges_118 : decode cX5_walkChanges 118 = .ok (.ifCond .ne 6, 3) := by decide +kernel
theorem dX5_walkChanges_121 : decode cX5_walkChanges 121 = .ok (.goto 59, 3) := by decide +kernel
theorem dX5_walkChanges_124 : decode cX5_walkChanges 124 = .ok (.aload_n 0, 1) := by decide +kernel
theorem dX5_walkChanges_125 : decode cX5_walkChanges 125 = .ok (.getfield 31, 3) := by decide +kernel
theorem dX5_walkChanges_128 : decode cX5_walkChanges 128 = .ok (.iload 5, 2) := by decide +kernel
theorem dX5_walkChanges_130 : decode cX5_walkChanges 130 = .ok (.iaload, 1) := by decide +kernel
theorem dX5_walkChanges_131 : decode cX5_walkChanges 131 = .ok (.istore 6, 2) := by decide +kernel
theorem dX5_walkChanges_133 : decode cX5_walkChanges 133 = .ok (.aload_n 0, 1) := by decide +kernel
theorem dX5_walkChanges_134 : decode cX5_walkChanges 134 = .ok (.getfield 31, 3) := by decide +kernel
theorem dX5_walkChanges_137 : decode cX5_walkChanges 137 = .ok (.iload 5, 2) := by decide +kernel
theorem dX5_walkChanges_139 : decode cX5_walkChanges 139 = .ok (.iconst 1, 1) := by decide +kernel
theorem dX5_walkChanges_140 : decode cX5_walkChanges 140 = .ok (.iadd, 1) := by decide +kernel
theorem dX5_walkChanges_141 : decode cX5_walkChanges 141 = .ok (.iaload, 1) := by decide +kernel
theorem dX5_walkChanges_142 : decode cX5_walkChanges 142 = .ok (.istore 7, 2) := by decide +kernel
theorem dX5_walkChanges_144 : decode cX5_walkChanges 144 = .ok (.aload_n 0, 1) := by decide +kernel
end
section
theorem dX5_walkChanges_145 : decode cX5_walkChanges 145 = .ok (.getfield 31, 3) := by decide +kernel
theorem dX5_walkChanges_148 : decode cX5_walkChanges 148 = .ok (.iload 5, 2) := by decide +kernel
theorem dX5_walkChanges_150 : decode cX5_walkChanges 150 = .ok (.iload 7, 2) := by decide +kernel
theorem dX5_walkChanges_152 : decode cX5_walkChanges 152 = .ok (.iastore, 1) := by decide +kernel
theorem dX5_walkChanges_153 : decode cX5_walkChanges 153 = .ok (.aload_n 0, 1) := by decide +kernel
theorem dX5_walkChanges_154 : decode cX5_walkChanges 154 = .ok (.getfield 31, 3) := by decide +kernel
theorem dX5_walkChanges_157 : decode cX5_walkChanges 157 = .ok (.iload 5, 2) := by decide +kernel
theorem dX5_walkChanges_159 : decode cX5_walkChanges 159 = .ok (.iconst 1, 1) := by decide +kernel
theorem dX5_walkChanges_160 : decode cX5_walkChanges 160 = .ok (.iadd, 1) := by decide +kernel
theorem dX5_walkChanges_161 : decode cX5_walkChanges 161 = .ok (.iload 6, 2) := by decide +kernel
theorem dX5_walkChanges_163 : decode cX5_walkChanges 163 = .ok (.iastore, 1) := by decide +kernel
theorem dX5_walkChanges_164 : decode cX5_walkChanges 164 = .ok (.aload_n 0, 1) := by decide +kernel
theorem dX5_walkChanges_165 : decode cX5_walkChanges 165 = .ok (.getfield 34, 3) := by decide +kernel
theorem dX5_walkChanges_168 : decode cX5_walkChanges 168 = .ok (.iload 6, 2) := by decide +kernel
theorem dX5_walkChanges_170 : decode cX5_walkChanges 170 = .ok (.iconst 1, 1) := by decide +kernel
theorem dX5_walkChanges_171 : decode cX5_walkChanges 171 = .ok (.iastore, 1) := by decide +kernel
theorem dX5_walkChanges_172 : decode cX5_walkChanges 172 = .ok (.aload_n 0, 1) := by decide +kernel
theorem dX5_walkChanges_173 : decode cX5_walkChanges 173 = .ok (.getfield 34, 3) := by decide +kernel
theorem dX5_walkChanges_176 : decode cX5_walkChanges 176 = .ok (.iload 7, 2) := by decide +kernel
theorem dX5_walkChanges_178 : decode cX5_walkChanges 178 = .ok (.iconst (-1), 1) := by decide +kernel
theorem dX5_walkChanges_179 : decode cX5_walkChanges 179 = .ok (.iastore, 1) := by decide +kernel
theorem dX5_walkChanges_180 : decode cX5_walkChanges 180 = .ok (.iinc 5 1, 3) := by decide +kernel
theorem dX5_walkChanges_183 : decode cX5_walkChanges 183 = .ok (.goto (-78), 3) := by decide +kernel
theorem dX5_walkChanges_186 : decode cX5_walkChanges 186 = .ok (.iconst 0, 1) := by decide +kernel
theorem dX5_walkChanges_187 : decode cX5_walkChanges 187 = .ok (.istore 5, 2) := by decide +kernel
theorem dX5_walkChanges_189 : decode cX5_walkChanges 189 = .ok (.iload 5, 2) := by decide +kernel
theorem dX5_walkChanges_191 : decode cX5_walkChanges 191 = .ok (.bipush 6, 2) := by decide +kernel
theorem dX5_walkChanges_193 : decode cX5_walkChanges 193 = .ok (.if_icmp .ge 54, 3) := by decide +kernel
theorem dX5_walkChanges_196 : decode cX5_walkChanges 196 = .ok (.aload_n 0, 1) := by decide +kernel
theorem dX5_walkChanges_197 : decode cX5_walkChanges 197 = .ok (.getfield 34, 3) := by decide +kernel
theorem dX5_walkChanges_200 : decode cX5_walkChanges 200 = .ok (.iload 5, 2) := by decide +kernel
theorem dX5_walkChanges_202 : decode cX5_walkChanges 202 = .ok (.iaload, 1) := by decide +kernel
theorem dX5_walkChanges_203 : decode cX5_walkChanges 203 = .ok (.aload_n 0, 1) := by decide +kernel
theorem dX5_walkChanges_204 : decode cX5_walkChanges 204 = .ok (.getfield 37, 3) := by decide +kernel
theorem dX5_walkChanges_207 : decode cX5_walkChanges 207 = .ok (.iload 5, 2) := by decide +kernel
theorem dX5_walkChanges_209 : decode cX5_walkChanges 209 = .ok (.iaload, 1) := by decide +kernel
theorem dX5_walkChanges_210 : decode cX5_walkChanges 210 = .ok (.imul, 1) := by decide +kernel
theorem dX5_walkChanges_211 : decode cX5_walkChanges 211 = .ok (.ifCond .ge 16, 3) := by decide +kernel
theorem dX5_walkChanges_214 : decode cX5_walkChanges 214 = .ok (.aload_n 0, 1) := by decide +kernel
theorem dX5_walkChanges_215 : decode cX5_walkChanges 215 = .ok (.getfield 28, 3) := by decide +kernel
theorem dX5_walkChanges_218 : decode cX5_walkChanges 218 = .ok (.iload_n 3, 1) := by decide +kernel
theorem dX5_walkChanges_219 : decode cX5_walkChanges 219 = .ok (.dup2, 1) := by decide +kernel
theorem dX5_walkChanges_220 : decode cX5_walkChanges 220 = .ok (.iaload, 1) := by decide +kernel
theorem dX5_walkChanges_221 : decode cX5_walkChanges 221 = .ok (.iconst 1, 1) := by decide +kernel
theorem dX5_walkChanges_222 : decode cX5_walkChanges 222 = .ok (.iload 5, 2) := by decide +kernel
theorem dX5_walkChanges_224 : decode cX5_walkChanges 224 = .ok (.ishl, 1) := by decide +kernel
theorem dX5_walkChanges_225 : decode cX5_walkChanges 225 = .ok (.ior, 1) := by decide +kernel
theorem dX5_walkChanges_226 : decode cX5_walkChanges 226 = .ok (.iastore, 1) := by decide +kernel
theorem dX5_walkChanges_227 : decode cX5_walkChanges 227 = .ok (.aload_n 0, 1) := by decide +kernel
theorem dX5_walkChanges_228 : decode cX5_walkChanges 228 = .ok (.getfield 37, 3) := by decide +kernel
theorem dX5_walkChanges_231 : decode cX5_walkChanges 231 = .ok (.iload 5, 2) := by decide +kernel
theorem dX5_walkChanges_233 : decode cX5_walkChanges 233 = .ok (.aload_n 0, 1) := by decide +kernel
theorem dX5_walkChanges_234 : decode cX5_walkChanges 234 = .ok (.getfield 34, 3) := by decide +kernel
theorem dX5_walkChanges_237 : decode cX5_walkChanges 237 = .ok (.iload 5, 2) := by decide +kernel
theorem dX5_walkChanges_239 : decode cX5_walkChanges 239 = .ok (.iaload, 1) := by decide +kernel
theorem dX5_walkChanges_240 : decode cX5_walkChanges 240 = .ok (.iastore, 1) := by decide +kernel
theorem dX5_walkChanges_241 : decode cX5_walkChanges 241 = .ok (.iinc 5 1, 3) := by decide +kernel
theorem dX5_walkChanges_244 : decode cX5_walkChanges 244 = .ok (.goto (-55), 3) := by decide +kernel
theorem dX5_walkChanges_247 : decode cX5_walkChanges 247 = .ok (.aload_n 0, 1) := by decide +kernel
theorem dX5_walkChanges_248 : decode cX5_walkChanges 248 = .ok (.getfield 25, 3) := by decide +kernel
theorem dX5_walkChanges_251 : decode cX5_walkChanges 251 = .ok (.iload_n 3, 1) := by decide +kernel
theorem dX5_walkChanges_252 : decode cX5_walkChanges 252 = .ok (.aload_n 0, 1) := by decide +kernel
theorem dX5_walkChanges_253 : decode cX5_walkChanges 253 = .ok (.invokevirtual 69, 3) := by decide +kernel
theorem dX5_walkChanges_256 : decode cX5_walkChanges 256 = .ok (.iastore, 1) := by decide +kernel
theorem dX5_walkChanges_257 : decode cX5_walkChanges 257 = .ok (.iinc 3 1, 3) := by decide +kernel
theorem dX5_walkChanges_260 : decode cX5_walkChanges 260 = .ok (.goto (-216), 3) := by decide +kernel
theorem dX5_walkChanges_263 : decode cX5_walkChanges 263 = .ok (.return_, 1) := by decide +kernel
theorem dX5_walk_0 : decode cX5_walk 0 = .ok (.aload_n 0, 1) := by decide +kernel
theorem dX5_walk_1 : decode cX5_walk 1 = .ok (.iload_n 1, 1) := by decide +kernel
theorem dX5_walk_2 : decode cX5_walk 2 = .ok (.iload_n 2, 1) := by decide +kernel
theorem dX5_walk_3 : decode cX5_walk 3 = .ok (.aload_n 0, 1) := by decide +kernel
theorem dX5_walk_4 : decode cX5_walk 4 = .ok (.getfield 19, 3) := by decide +kernel
theorem dX5_walk_7 : decode cX5_walk 7 = .ok (.iload_n 1, 1) := by decide +kernel
theorem dX5_walk_8 : decode cX5_walk 8 = .ok (.iaload, 1) := by decide +kernel
theorem dX5_walk_9 : decode cX5_walk 9 = .ok (.imul, 1) := by decide +kernel
theorem dX5_walk_10 : decode cX5_walk 10 = .ok (.invokevirtual 73, 3) := by decide +kernel
theorem dX5_walk_13 : decode cX5_walk 13 = .ok (.return_, 1) := by decide +kernel
theorem dX5_untrue_0 : decode cX5_untrue 0 = .ok (.iconst 0, 1) := by decide +kernel
theorem dX5_untrue_1 : decode cX5_untrue 1 = .ok (.istore_n 1, 1) := by decide +kernel
theorem dX5_untrue_2 : decode cX5_untrue 2 = .ok (.iconst 1, 1) := by decide +kernel
theorem dX5_untrue_3 : decode cX5_untrue 3 = .ok (.istore_n 2, 1) := by decide +kernel
theorem dX5_untrue_4 : decode cX5_untrue 4 = .ok (.iload_n 2, 1) := by decide +kernel
theorem dX5_untrue_5 : decode cX5_untrue 5 = .ok (.aload_n 0, 1) := by decide +kernel
theorem dX5_untrue_6 : decode cX5_untrue 6 = .ok (.getfield 66, 3) := by decide +kernel
theorem dX5_untrue_9 : decode cX5_untrue 9 = .ok (.if_icmp .gt 45, 3) := by decide +kernel
theorem dX5_untrue_12 : decode cX5_untrue 12 = .ok (.iload_n 1, 1) := by decide +kernel
theorem dX5_untrue_13 : decode cX5_untrue 13 = .ok (.aload_n 0, 1) := by decide +kernel
theorem dX5_untrue_14 : decode cX5_untrue 14 = .ok (.iload_n 2, 1) := by decide +kernel
theorem dX5_untrue_15 : decode cX5_untrue 15 = .ok (.invokevirtual 77, 3) := by decide +kernel
theorem dX5_untrue_18 : decode cX5_untrue 18 = .ok (.ifCond .ne 23, 3) := by decide +kernel
theorem dX5_untrue_21 : decode cX5_untrue 21 = .ok (.iload_n 2, 1) := by decide +kernel
theorem dX5_untrue_22 : decode cX5_untrue 22 = .ok (.aload_n 0, 1) := by decide +kernel
theorem dX5_untrue_23 : decode cX5_untrue 23 = .ok (.getfield 66, 3) := by decide +kernel
theorem dX5_untrue_26 : decode cX5_untrue 26 = .ok (.if_icmp .ne 19, 3) := by decide +kernel
theorem dX5_untrue_29 : decode cX5_untrue 29 = .ok (.aload_n 0, 1) := by decide +kernel
theorem dX5_untrue_30 : decode cX5_untrue 30 = .ok (.getfield 25, 3) := by decide +kernel
theorem dX5_untrue_33 : decode cX5_untrue 33 = .ok (.iload_n 2, 1) := by decide +kernel
theorem dX5_untrue_34 : decode cX5_untrue 34 = .ok (.iaload, 1) := by decide +kernel
theorem dX5_untrue_35 : decode cX5_untrue 35 = .ok (.sipush 1865, 3) := by decide +kernel
theorem dX5_untrue_38 : decode cX5_untrue 38 = .ok (.if_icmp .ne 7, 3) := by decide +kernel
theorem dX5_untrue_41 : decode cX5_untrue 41 = .ok (.iconst 0, 1) := by decide +kernel
theorem dX5_untrue_42 : decode cX5_untrue 42 = .ok (.goto 4, 3) := by decide +kernel
theorem dX5_untrue_45 : decode cX5_untrue 45 = .ok (.iconst 1, 1) := by decide +kernel
theorem dX5_untrue_46 : decode cX5_untrue 46 = .ok (.iadd, 1) := by decide +kernel
theorem dX5_untrue_47 : decode cX5_untrue 47 = .ok (.istore_n 1, 1) := by decide +kernel
theorem dX5_untrue_48 : decode cX5_untrue 48 = .ok (.iinc 2 1, 3) := by decide +kernel
theorem dX5_untrue_51 : decode cX5_untrue 51 = .ok (.goto (-47), 3) := by decide +kernel
theorem dX5_untrue_54 : decode cX5_untrue 54 = .ok (.iload_n 1, 1) := by decide +kernel
theorem dX5_untrue_55 : decode cX5_untrue 55 = .ok (.ireturn, 1) := by decide +kernel
theorem dX5_isNew_0 : decode cX5_isNew 0 = .ok (.iconst 0, 1) := by decide +kernel
theorem dX5_isNew_1 : decode cX5_isNew 1 = .ok (.istore_n 2, 1) := by decide +kernel
theorem dX5_isNew_2 : decode cX5_isNew 2 = .ok (.iload_n 2, 1) := by decide +kernel
theorem dX5_isNew_3 : decode cX5_isNew 3 = .ok (.iload_n 1, 1) := by decide +kernel
theorem dX5_isNew_4 : decode cX5_isNew 4 = .ok (.if_icmp .ge 26, 3) := by decide +kernel
theorem dX5_isNew_7 : decode cX5_isNew 7 = .ok (.aload_n 0, 1) := by decide +kernel
theorem dX5_isNew_8 : decode cX5_isNew 8 = .ok (.getfield 25, 3) := by decide +kernel
theorem dX5_isNew_11 : decode cX5_isNew 11 = .ok (.iload_n 2, 1) := by decide +kernel
theorem dX5_isNew_12 : decode cX5_isNew 12 = .ok (.iaload, 1) := by decide +kernel
theorem dX5_isNew_13 : decode cX5_isNew 13 = .ok (.aload_n 0, 1) := by decide +kernel
theorem dX5_isNew_14 : decode cX5_isNew 14 = .ok (.getfield 25, 3) := by decide +kernel
theorem dX5_isNew_17 : decode cX5_isNew 17 = .ok (.iload_n 1, 1) := by decide +kernel
theorem dX5_isNew_18 : decode cX5_isNew 18 = .ok (.iaload, 1) := by decide +kernel
theorem dX5_isNew_19 : decode cX5_isNew 19 = .ok (.if_icmp .ne 5, 3) := by decide +kernel
theorem dX5_isNew_22 : decode cX5_isNew 22 = .ok (.iconst 0, 1) := by decide +kernel
theorem dX5_isNew_23 : decode cX5_isNew 23 = .ok (.ireturn, 1) := by decide +kernel
theorem dX5_isNew_24 : decode cX5_isNew 24 = .ok (.iinc 2 1, 3) := by decide +kernel
theorem dX5_isNew_27 : decode cX5_isNew 27 = .ok (.goto (-25), 3) := by decide +kernel
theorem dX5_isNew_30 : decode cX5_isNew 30 = .ok (.iconst 1, 1) := by decide +kernel
theorem dX5_isNew_31 : decode cX5_isNew 31 = .ok (.ireturn, 1) := by decide +kernel
theorem dX5_course_0 : decode cX5_course 0 = .ok (.iconst 1, 1) := by decide +kernel
theorem dX5_course_1 : decode cX5_course 1 = .ok (.istore_n 2, 1) := by decide +kernel
theorem dX5_course_2 : decode cX5_course 2 = .ok (.aload_n 0, 1) := by decide +kernel
theorem dX5_course_3 : decode cX5_course 3 = .ok (.iload_n 1, 1) := by decide +kernel
theorem dX5_course_4 : decode cX5_course 4 = .ok (.iload_n 2, 1) := by decide +kernel
theorem dX5_course_5 : decode cX5_course 5 = .ok (.invokevirtual 81, 3) := by decide +kernel
theorem dX5_course_8 : decode cX5_course 8 = .ok (.aload_n 0, 1) := by decide +kernel
theorem dX5_course_9 : decode cX5_course 9 = .ok (.getfield 25, 3) := by decide +kernel
theorem dX5_course_12 : decode cX5_course 12 = .ok (.aload_n 0, 1) := by decide +kernel
theorem dX5_course_13 : decode cX5_course 13 = .ok (.getfield 66, 3) := by decide +kernel
theorem dX5_course_16 : decode cX5_course 16 = .ok (.iaload, 1) := by decide +kernel
theorem dX5_course_17 : decode cX5_course 17 = .ok (.sipush 1865, 3) := by decide +kernel
theorem dX5_course_20 : decode cX5_course 20 = .ok (.if_icmp .eq 15, 3) := by decide +kernel
theorem dX5_course_23 : decode cX5_course 23 = .ok (.iinc 2 1, 3) := by decide +kernel
theorem dX5_course_26 : decode cX5_course 26 = .ok (.aload_n 0, 1) := by decide +kernel
theorem dX5_course_27 : decode cX5_course 27 = .ok (.iload_n 1, 1) := by decide +kernel
theorem dX5_course_28 : decode cX5_course 28 = .ok (.iload_n 2, 1) := by decide +kernel
theorem dX5_course_29 : decode cX5_course 29 = .ok (.invokevirtual 81, 3) := by decide +kernel
theorem dX5_course_32 : decode cX5_course 32 = .ok (.goto (-24), 3) := by decide +kernel
theorem dX5_course_35 : decode cX5_course 35 = .ok (.iload_n 2, 1) := by decide +kernel
theorem dX5_course_36 : decode cX5_course 36 = .ok (.ireturn, 1) := by decide +kernel
theorem dX5_dodgesOf_0 : decode cX5_dodgesOf 0 = .ok (.iconst 0, 1) := by decide +kernel
theorem dX5_dodgesOf_1 : decode cX5_dodgesOf 1 = .ok (.istore_n 2, 1) := by decide +kernel
theorem dX5_dodgesOf_2 : decode cX5_dodgesOf 2 = .ok (.iconst 1, 1) := by decide +kernel
theorem dX5_dodgesOf_3 : decode cX5_dodgesOf 3 = .ok (.istore_n 3, 1) := by decide +kernel
theorem dX5_dodgesOf_4 : decode cX5_dodgesOf 4 = .ok (.iload_n 3, 1) := by decide +kernel
theorem dX5_dodgesOf_5 : decode cX5_dodgesOf 5 = .ok (.aload_n 0, 1) := by decide +kernel
theorem dX5_dodgesOf_6 : decode cX5_dodgesOf 6 = .ok (.getfield 66, 3) := by decide +kernel
theorem dX5_dodgesOf_9 : decode cX5_dodgesOf 9 = .ok (.if_icmp .gt 22, 3) := by decide +kernel
theorem dX5_dodgesOf_12 : decode cX5_dodgesOf 12 = .ok (.iload_n 2, 1) := by decide +kernel
theorem dX5_dodgesOf_13 : decode cX5_dodgesOf 13 = .ok (.aload_n 0, 1) := by decide +kernel
theorem dX5_dodgesOf_14 : decode cX5_dodgesOf 14 = .ok (.getfield 28, 3) := by decide +kernel
theorem dX5_dodgesOf_17 : decode cX5_dodgesOf 17 = .ok (.iload_n 3, 1) := by decide +kernel
theorem dX5_dodgesOf_18 : decode cX5_dodgesOf 18 = .ok (.iaload, 1) := by decide +kernel
theorem dX5_dodgesOf_19 : decode cX5_dodgesOf 19 = .ok (.iload_n 1, 1) := by decide +kernel
theorem dX5_dodgesOf_20 : decode cX5_dodgesOf 20 = .ok (.ishr, 1) := by decide +kernel
theorem dX5_dodgesOf_21 : decode cX5_dodgesOf 21 = .ok (.iconst 1, 1) := by decide +kernel
theorem dX5_dodgesOf_22 : decode cX5_dodgesOf 22 = .ok (.iand, 1) := by decide +kernel
theorem dX5_dodgesOf_23 : decode cX5_dodgesOf 23 = .ok (.iadd, 1) := by decide +kernel
theorem dX5_dodgesOf_24 : decode cX5_dodgesOf 24 = .ok (.istore_n 2, 1) := by decide +kernel
theorem dX5_dodgesOf_25 : decode cX5_dodgesOf 25 = .ok (.iinc 3 1, 3) := by decide +kernel
theorem dX5_dodgesOf_28 : decode cX5_dodgesOf 28 = .ok (.goto (-24), 3) := by decide +kernel
theorem dX5_dodgesOf_31 : decode cX5_dodgesOf 31 = .ok (.iload_n 2, 1) := by decide +kernel
theorem dX5_dodgesOf_32 : decode cX5_dodgesOf 32 = .ok (.ireturn, 1) := by decide +kernel
theorem dX5_ringer_0 : decode cX5_ringer 0 = .ok (.aload_n 0, 1) := by decide +kernel
theorem dX5_ringer_1 : decode cX5_ringer 1 = .ok (.iconst 0, 1) := by decide +kernel
theorem dX5_ringer_2 : decode cX5_ringer 2 = .ok (.putfield 52, 3) := by decide +kernel
theorem dX5_ringer_5 : decode cX5_ringer 5 = .ok (.iload_n 1, 1) := by decide +kernel
theorem dX5_ringer_6 : decode cX5_ringer 6 = .ok (.iconst 0, 1) := by decide +kernel
theorem dX5_ringer_7 : decode cX5_ringer 7 = .ok (.iconst 3, 1) := by decide +kernel
theorem dX5_ringer_8 : decode cX5_ringer 8 = .ok (.invokestatic 59, 3) := by decide +kernel
theorem dX5_ringer_11 : decode cX5_ringer 11 = .ok (.ifCond .ne 9, 3) := by decide +kernel
theorem dX5_ringer_14 : decode cX5_ringer 14 = .ok (.aload_n 0, 1) := by decide +kernel
theorem dX5_ringer_15 : decode cX5_ringer 15 = .ok (.iconst 1, 1) := by decide +kernel
theorem dX5_ringer_16 : decode cX5_ringer 16 = .ok (.invokevirtual 84, 3) := by decide +kernel
theorem dX5_ringer_19 : decode cX5_ringer 19 = .ok (.ireturn, 1) := by decide +kernel
theorem dX5_ringer_20 : decode cX5_ringer 20 = .ok (.iload_n 2, 1) := by decide +kernel
theorem dX5_ringer_21 : decode cX5_ringer 21 = .ok (.iconst 0, 1) := by decide +kernel
theorem dX5_ringer_22 : decode cX5_ringer 22 = .ok (.bipush 9, 2) := by decide +kernel
theorem dX5_ringer_24 : decode cX5_ringer 24 = .ok (.invokestatic 59, 3) := by decide +kernel
theorem dX5_ringer_27 : decode cX5_ringer 27 = .ok (.ifCond .eq 13, 3) := by decide +kernel
theorem dX5_ringer_30 : decode cX5_ringer 30 = .ok (.iload_n 3, 1) := by decide +kernel
theorem dX5_ringer_31 : decode cX5_ringer 31 = .ok (.iconst 0, 1) := by decide +kernel
theorem dX5_ringer_32 : decode cX5_ringer 32 = .ok (.bipush 99, 2) := by decide +kernel
theorem dX5_ringer_34 : decode cX5_ringer 34 = .ok (.invokestatic 59, 3) := by decide +kernel
theorem dX5_ringer_37 : decode cX5_ringer 37 = .ok (.ifCond .ne 9, 3) := by decide +kernel
theorem dX5_ringer_40 : decode cX5_ringer 40 = .ok (.aload_n 0, 1) := by decide +kernel
theorem dX5_ringer_41 : decode cX5_ringer 41 = .ok (.iconst 2, 1) := by decide +kernel
theorem dX5_ringer_42 : decode cX5_ringer 42 = .ok (.invokevirtual 84, 3) := by decide +kernel
theorem dX5_ringer_45 : decode cX5_ringer 45 = .ok (.ireturn, 1) := by decide +kernel
theorem dX5_ringer_46 : decode cX5_ringer 46 = .ok (.aload_n 0, 1) := by decide +kernel
theorem dX5_ringer_47 : decode cX5_ringer 47 = .ok (.getfield 56, 3) := by decide +kernel
theorem dX5_ringer_50 : decode cX5_ringer 50 = .ok (.bipush 20, 2) := by decide +kernel
theorem dX5_ringer_52 : decode cX5_ringer 52 = .ok (.if_icmp .ne 9, 3) := by decide +kernel
theorem dX5_ringer_55 : decode cX5_ringer 55 = .ok (.aload_n 0, 1) := by decide +kernel
theorem dX5_ringer_56 : decode cX5_ringer 56 = .ok (.iconst 3, 1) := by decide +kernel
theorem dX5_ringer_57 : decode cX5_ringer 57 = .ok (.invokevirtual 84, 3) := by decide +kernel
theorem dX5_ringer_60 : decode cX5_ringer 60 = .ok (.ireturn, 1) := by decide +kernel
theorem dX5_ringer_61 : decode cX5_ringer 61 = .ok (.aload_n 0, 1) := by decide +kernel
theorem dX5_ringer_62 : decode cX5_ringer 62 = .ok (.getfield 9, 3) := by decide +kernel
theorem dX5_ringer_65 : decode cX5_ringer 65 = .ok (.aload_n 0, 1) := by decide +kernel
theorem dX5_ringer_66 : decode cX5_ringer 66 = .ok (.getfield 56, 3) := by decide +kernel
theorem dX5_ringer_69 : decode cX5_ringer 69 = .ok (.iload_n 1, 1) := by decide +kernel
theorem dX5_ringer_70 : decode cX5_ringer 70 = .ok (.iastore, 1) := by decide +kernel
theorem dX5_ringer_71 : decode cX5_ringer 71 = .ok (.aload_n 0, 1) := by decide +kernel
theorem dX5_ringer_72 : decode cX5_ringer 72 = .ok (.getfield 13, 3) := by decide +kernel
theorem dX5_ringer_75 : decode cX5_ringer 75 = .ok (.aload_n 0, 1) := by decide +kernel
theorem dX5_ringer_76 : decode cX5_ringer 76 = .ok (.getfield 56, 3) := by decide +kernel
theorem dX5_ringer_79 : decode cX5_ringer 79 = .ok (.iload_n 2, 1) := by decide +kernel
theorem dX5_ringer_80 : decode cX5_ringer 80 = .ok (.iastore, 1) := by decide +kernel
theorem dX5_ringer_81 : decode cX5_ringer 81 = .ok (.aload_n 0, 1) := by decide +kernel
theorem dX5_ringer_82 : decode cX5_ringer 82 = .ok (.getfield 45, 3) := by decide +kernel
theorem dX5_ringer_85 : decode cX5_ringer 85 = .ok (.getfield 88, 3) := by decide +kernel
theorem dX5_ringer_88 : decode cX5_ringer 88 = .ok (.aload_n 0, 1) := by decide +kernel
theorem dX5_ringer_89 : decode cX5_ringer 89 = .ok (.getfield 56, 3) := by decide +kernel
theorem dX5_ringer_92 : decode cX5_ringer 92 = .ok (.iload_n 3, 1) := by decide +kernel
theorem dX5_ringer_93 : decode cX5_ringer 93 = .ok (.iastore, 1) := by decide +kernel
theorem dX5_ringer_94 : decode cX5_ringer 94 = .ok (.aload_n 0, 1) := by decide +kernel
theorem dX5_ringer_95 : decode cX5_ringer 95 = .ok (.getfield 45, 3) := by decide +kernel
theorem dX5_ringer_98 : decode cX5_ringer 98 = .ok (.getfield 91, 3) := by decide +kernel
theorem dX5_ringer_101 : decode cX5_ringer 101 = .ok (.aload_n 0, 1) := by decide +kernel
theorem dX5_ringer_102 : decode cX5_ringer 102 = .ok (.getfield 56, 3) := by decide +kernel
theorem dX5_ringer_105 : decode cX5_ringer 105 = .ok (.iconst (-1), 1) := by decide +kernel
theorem dX5_ringer_106 : decode cX5_ringer 106 = .ok (.iastore, 1) := by decide +kernel
theorem dX5_ringer_107 : decode cX5_ringer 107 = .ok (.aload_n 0, 1) := by decide +kernel
theorem dX5_ringer_108 : decode cX5_ringer 108 = .ok (.dup, 1) := by decide +kernel
theorem dX5_ringer_109 : decode cX5_ringer 109 = .ok (.getfield 56, 3) := by decide +kernel
theorem dX5_ringer_112 : decode cX5_ringer 112 = .ok (.iconst 1, 1) := by decide +kernel
theorem dX5_ringer_113 : decode cX5_ringer 113 = .ok (.iadd, 1) := by decide +kernel
theorem dX5_ringer_114 : decode cX5_ringer 114 = .ok (.putfield 56, 3) := by decide +kernel
theorem dX5_ringer_117 : decode cX5_ringer 117 = .ok (.aload_n 0, 1) := by decide +kernel
theorem dX5_ringer_118 : decode cX5_ringer 118 = .ok (.getfield 56, 3) := by decide +kernel
theorem dX5_ringer_121 : decode cX5_ringer 121 = .ok (.iconst 1, 1) := by decide +kernel
theorem dX5_ringer_122 : decode cX5_ringer 122 = .ok (.isub, 1) := by decide +kernel
theorem dX5_ringer_123 : decode cX5_ringer 123 = .ok (.ireturn, 1) := by decide +kernel
theorem dX5_vote_0 : decode cX5_vote 0 = .ok (.aload_n 0, 1) := by decide +kernel
theorem dX5_vote_1 : decode cX5_vote 1 = .ok (.iconst 0, 1) := by decide +kernel
theorem dX5_vote_2 : decode cX5_vote 2 = .ok (.putfield 52, 3) := by decide +kernel
theorem dX5_vote_5 : decode cX5_vote 5 = .ok (.aload_n 0, 1) := by decide +kernel
theorem dX5_vote_6 : decode cX5_vote 6 = .ok (.iload_n 1, 1) := by decide +kernel
theorem dX5_vote_7 : decode cX5_vote 7 = .ok (.invokevirtual 94, 3) := by decide +kernel
theorem dX5_vote_10 : decode cX5_vote 10 = .ok (.ifCond .ne 9, 3) := by decide +kernel
theorem dX5_vote_13 : decode cX5_vote 13 = .ok (.aload_n 0, 1) := by decide +kernel
theorem dX5_vote_14 : decode cX5_vote 14 = .ok (.iconst 1, 1) := by decide +kernel
theorem dX5_vote_15 : decode cX5_vote 15 = .ok (.invokevirtual 84, 3) := by decide +kernel
theorem dX5_vote_18 : decode cX5_vote 18 = .ok (.ireturn, 1) := by decide +kernel
theorem dX5_vote_19 : decode cX5_vote 19 = .ok (.iload_n 2, 1) := by decide +kernel
theorem dX5_vote_20 : decode cX5_vote 20 = .ok (.bipush (-99), 2) := by decide +kernel
theorem dX5_vote_22 : decode cX5_vote 22 = .ok (.bipush 99, 2) := by decide +kernel
theorem dX5_vote_24 : decode cX5_vote 24 = .ok (.invokestatic 59, 3) := by decide +kernel
theorem dX5_vote_27 : decode cX5_vote 27 = .ok (.ifCond .ne 9, 3) := by decide +kernel
theorem dX5_vote_30 : decode cX5_vote 30 = .ok (.aload_n 0, 1) := by decide +kernel
theorem dX5_vote_31 : decode cX5_vote 31 = .ok (.iconst 2, 1) := by decide +kernel
theorem dX5_vote_32 : decode cX5_vote 32 = .ok (.invokevirtual 84, 3) := by decide +kernel
theorem dX5_vote_35 : decode cX5_vote 35 = .ok (.ireturn, 1) := by decide +kernel
theorem dX5_vote_36 : decode cX5_vote 36 = .ok (.aload_n 0, 1) := by decide +kernel
theorem dX5_vote_37 : decode cX5_vote 37 = .ok (.getfield 45, 3) := by decide +kernel
theorem dX5_vote_40 : decode cX5_vote 40 = .ok (.getfield 88, 3) := by decide +kernel
theorem dX5_vote_43 : decode cX5_vote 43 = .ok (.iload_n 1, 1) := by decide +kernel
theorem dX5_vote_44 : decode cX5_vote 44 = .ok (.iconst 0, 1) := by decide +kernel
theorem dX5_vote_45 : decode cX5_vote 45 = .ok (.bipush 99, 2) := by decide +kernel
theorem dX5_vote_47 : decode cX5_vote 47 = .ok (.aload_n 0, 1) := by decide +kernel
theorem dX5_vote_48 : decode cX5_vote 48 = .ok (.getfield 45, 3) := by decide +kernel
theorem dX5_vote_51 : decode cX5_vote 51 = .ok (.getfield 88, 3) := by decide +kernel
theorem dX5_vote_54 : decode cX5_vote 54 = .ok (.iload_n 1, 1) := by decide +kernel
theorem dX5_vote_55 : decode cX5_vote 55 = .ok (.iaload, 1) := by decide +kernel
theorem dX5_vote_56 : decode cX5_vote 56 = .ok (.iload_n 2, 1) := by decide +kernel
theorem dX5_vote_57 : decode cX5_vote 57 = .ok (.iadd, 1) := by decide +kernel
theorem dX5_vote_58 : decode cX5_vote 58 = .ok (.invokestatic 97, 3) := by decide +kernel
theorem dX5_vote_61 : decode cX5_vote 61 = .ok (.invokestatic 103, 3) := by decide +kernel
theorem dX5_vote_64 : decode cX5_vote 64 = .ok (.iastore, 1) := by decide +kernel
theorem dX5_vote_65 : decode cX5_vote 65 = .ok (.aload_n 0, 1) := by decide +kernel
theorem dX5_vote_66 : decode cX5_vote 66 = .ok (.getfield 45, 3) := by decide +kernel
theorem dX5_vote_69 : decode cX5_vote 69 = .ok (.getfield 88, 3) := by decide +kernel
theorem dX5_vote_72 : decode cX5_vote 72 = .ok (.iload_n 1, 1) := by decide +kernel
theorem dX5_vote_73 : decode cX5_vote 73 = .ok (.iaload, 1) := by decide +kernel
theorem dX5_vote_74 : decode cX5_vote 74 = .ok (.ireturn, 1) := by decide +kernel
theorem dX5_seat_0 : decode cX5_seat 0 = .ok (.aload_n 0, 1) := by decide +kernel
theorem dX5_seat_1 : decode cX5_seat 1 = .ok (.iconst 0, 1) := by decide +kernel
theorem dX5_seat_2 : decode cX5_seat 2 = .ok (.putfield 52, 3) := by decide +kernel
theorem dX5_seat_5 : decode cX5_seat 5 = .ok (.iload_n 1, 1) := by decide +kernel
theorem dX5_seat_6 : decode cX5_seat 6 = .ok (.iload_n 2, 1) := by decide +kernel
theorem dX5_seat_7 : decode cX5_seat 7 = .ok (.invokestatic 106, 3) := by decide +kernel
theorem dX5_seat_10 : decode cX5_seat 10 = .ok (.ifCond .eq 12, 3) := by decide +kernel
theorem dX5_seat_13 : decode cX5_seat 13 = .ok (.iload_n 3, 1) := by decide +kernel
theorem dX5_seat_14 : decode cX5_seat 14 = .ok (.iconst 0, 1) := by decide +kernel
theorem dX5_seat_15 : decode cX5_seat 15 = .ok (.iconst 3, 1) := by decide +kernel
theorem dX5_seat_16 : decode cX5_seat 16 = .ok (.invokestatic 59, 3) := by decide +kernel
theorem dX5_seat_19 : decode cX5_seat 19 = .ok (.ifCond .ne 9, 3) := by decide +kernel
theorem dX5_seat_22 : decode cX5_seat 22 = .ok (.aload_n 0, 1) := by decide +kernel
theorem dX5_seat_23 : decode cX5_seat 23 = .ok (.iconst 1, 1) := by decide +kernel
theorem dX5_seat_24 : decode cX5_seat 24 = .ok (.invokevirtual 84, 3) := by decide +kernel
theorem dX5_seat_27 : decode cX5_seat 27 = .ok (.ireturn, 1) := by decide +kernel
theorem dX5_seat_28 : decode cX5_seat 28 = .ok (.aload_n 0, 1) := by decide +kernel
theorem dX5_seat_29 : decode cX5_seat 29 = .ok (.getfield 16, 3) := by decide +kernel
theorem dX5_seat_32 : decode cX5_seat 32 = .ok (.bipush 6, 2) := by decide +kernel
theorem dX5_seat_34 : decode cX5_seat 34 = .ok (.iload_n 1, 1) := by decide +kernel
theorem dX5_seat_35 : decode cX5_seat 35 = .ok (.imul, 1) := by decide +kernel
theorem dX5_seat_36 : decode cX5_seat 36 = .ok (.iload_n 2, 1) := by decide +kernel
theorem dX5_seat_37 : decode cX5_seat 37 = .ok (.iadd, 1) := by decide +kernel
theorem dX5_seat_38 : decode cX5_seat 38 = .ok (.iaload, 1) := by decide +kernel
theorem dX5_seat_39 : decode cX5_seat 39 = .ok (.istore 4, 2) := by decide +kernel
theorem dX5_seat_41 : decode cX5_seat 41 = .ok (.aload_n 0, 1) := by decide +kernel
theorem dX5_seat_42 : decode cX5_seat 42 = .ok (.getfield 16, 3) := by decide +kernel
theorem dX5_seat_45 : decode cX5_seat 45 = .ok (.bipush 6, 2) := by decide +kernel
theorem dX5_seat_47 : decode cX5_seat 47 = .ok (.iload_n 1, 1) := by decide +kernel
theorem dX5_seat_48 : decode cX5_seat 48 = .ok (.imul, 1) := by decide +kernel
theorem dX5_seat_49 : decode cX5_seat 49 = .ok (.iload_n 2, 1) := by decide +kernel
theorem dX5_seat_50 : decode cX5_seat 50 = .ok (.iadd, 1) := by decide +kernel
theorem dX5_seat_51 : decode cX5_seat 51 = .ok (.iload_n 3, 1) := by decide +kernel
theorem dX5_seat_52 : decode cX5_seat 52 = .ok (.iastore, 1) := by decide +kernel
theorem dX5_seat_53 : decode cX5_seat 53 = .ok (.iload 4, 2) := by decide +kernel
theorem dX5_seat_55 : decode cX5_seat 55 = .ok (.ireturn, 1) := by decide +kernel
theorem dX5_elect_0 : decode cX5_elect 0 = .ok (.aload_n 0, 1) := by decide +kernel
theorem dX5_elect_1 : decode cX5_elect 1 = .ok (.iconst 0, 1) := by decide +kernel
theorem dX5_elect_2 : decode cX5_elect 2 = .ok (.putfield 52, 3) := by decide +kernel
theorem dX5_elect_5 : decode cX5_elect 5 = .ok (.iload_n 1, 1) := by decide +kernel
theorem dX5_elect_6 : decode cX5_elect 6 = .ok (.iconst 0, 1) := by decide +kernel
theorem dX5_elect_7 : decode cX5_elect 7 = .ok (.iconst 2, 1) := by decide +kernel
theorem dX5_elect_8 : decode cX5_elect 8 = .ok (.invokestatic 59, 3) := by decide +kernel
theorem dX5_elect_11 : decode cX5_elect 11 = .ok (.ifCond .eq 18, 3) := by decide +kernel
theorem dX5_elect_14 : decode cX5_elect 14 = .ok (.aload_n 0, 1) := by decide +kernel
theorem dX5_elect_15 : decode cX5_elect 15 = .ok (.getfield 45, 3) := by decide +kernel
theorem dX5_elect_18 : decode cX5_elect 18 = .ok (.iload_n 1, 1) := by decide +kernel
theorem dX5_elect_19 : decode cX5_elect 19 = .ok (.invokevirtual 110, 3) := by decide +kernel
theorem dX5_elect_22 : decode cX5_elect 22 = .ok (.iload_n 1, 1) := by decide +kernel
theorem dX5_elect_23 : decode cX5_elect 23 = .ok (.invokevirtual 114, 3) := by decide +kernel
theorem dX5_elect_26 : decode cX5_elect 26 = .ok (.goto 8, 3) := by decide +kernel
theorem dX5_elect_29 : decode cX5_elect 29 = .ok (.aload_n 0, 1) := by decide +kernel
theorem dX5_elect_30 : decode cX5_elect 30 = .ok (.iconst 1, 1) := by decide +kernel
theorem dX5_elect_31 : decode cX5_elect 31 = .ok (.invokevirtual 84, 3) := by decide +kernel
theorem dX5_elect_34 : decode cX5_elect 34 = .ok (.ireturn, 1) := by decide +kernel
theorem dX5_put_0 : decode cX5_put 0 = .ok (.aload_n 0, 1) := by decide +kernel
theorem dX5_put_1 : decode cX5_put 1 = .ok (.iconst 0, 1) := by decide +kernel
theorem dX5_put_2 : decode cX5_put 2 = .ok (.putfield 52, 3) := by decide +kernel
theorem dX5_put_5 : decode cX5_put 5 = .ok (.iload_n 1, 1) := by decide +kernel
theorem dX5_put_6 : decode cX5_put 6 = .ok (.iload_n 2, 1) := by decide +kernel
theorem dX5_put_7 : decode cX5_put 7 = .ok (.invokestatic 106, 3) := by decide +kernel
theorem dX5_put_10 : decode cX5_put 10 = .ok (.ifCond .eq 11, 3) := by decide +kernel
theorem dX5_put_13 : decode cX5_put 13 = .ok (.aload_n 0, 1) := by decide +kernel
theorem dX5_put_14 : decode cX5_put 14 = .ok (.iload_n 3, 1) := by decide +kernel
theorem dX5_put_15 : decode cX5_put 15 = .ok (.invokevirtual 94, 3) := by decide +kernel
theorem dX5_put_18 : decode cX5_put 18 = .ok (.ifCond .ne 9, 3) := by decide +kernel
theorem dX5_put_21 : decode cX5_put 21 = .ok (.aload_n 0, 1) := by decide +kernel
theorem dX5_put_22 : decode cX5_put 22 = .ok (.iconst 1, 1) := by decide +kernel
theorem dX5_put_23 : decode cX5_put 23 = .ok (.invokevirtual 84, 3) := by decide +kernel
theorem dX5_put_26 : decode cX5_put 26 = .ok (.ireturn, 1) := by decide +kernel
theorem dX5_put_27 : decode cX5_put 27 = .ok (.aload_n 0, 1) := by decide +kernel
theorem dX5_put_28 : decode cX5_put 28 = .ok (.getfield 45, 3) := by decide +kernel
theorem dX5_put_31 : decode cX5_put 31 = .ok (.bipush 6, 2) := by decide +kernel
theorem dX5_put_33 : decode cX5_put 33 = .ok (.iload_n 1, 1) := by decide +kernel
theorem dX5_put_34 : decode cX5_put 34 = .ok (.imul, 1) := by decide +kernel
theorem dX5_put_35 : decode cX5_put 35 = .ok (.iload_n 2, 1) := by decide +kernel
theorem dX5_put_36 : decode cX5_put 36 = .ok (.iadd, 1) := by decide +kernel
theorem dX5_put_37 : decode cX5_put 37 = .ok (.invokevirtual 117, 3) := by decide +kernel
theorem dX5_put_40 : decode cX5_put 40 = .ok (.iconst (-1), 1) := by decide +kernel
theorem dX5_put_41 : decode cX5_put 41 = .ok (.if_icmp .ne 16, 3) := by decide +kernel
theorem dX5_put_44 : decode cX5_put 44 = .ok (.aload_n 0, 1) := by decide +kernel
theorem dX5_put_45 : decode cX5_put 45 = .ok (.getfield 45, 3) := by decide +kernel
theorem dX5_put_48 : decode cX5_put 48 = .ok (.getfield 91, 3) := by decide +kernel
theorem dX5_put_51 : decode cX5_put 51 = .ok (.iload_n 3, 1) := by decide +kernel
theorem dX5_put_52 : decode cX5_put 52 = .ok (.iaload, 1) := by decide +kernel
theorem dX5_put_53 : decode cX5_put 53 = .ok (.iconst (-1), 1) := by decide +kernel
theorem dX5_put_54 : decode cX5_put 54 = .ok (.if_icmp .eq 9, 3) := by decide +kernel
theorem dX5_put_57 : decode cX5_put 57 = .ok (.aload_n 0, 1) := by decide +kernel
theorem dX5_put_58 : decode cX5_put 58 = .ok (.iconst 2, 1) := by decide +kernel
theorem dX5_put_59 : decode cX5_put 59 = .ok (.invokevirtual 84, 3) := by decide +kernel
theorem dX5_put_62 : decode cX5_put 62 = .ok (.ireturn, 1) := by decide +kernel
theorem dX5_put_63 : decode cX5_put 63 = .ok (.aload_n 0, 1) := by decide +kernel
theorem dX5_put_64 : decode cX5_put 64 = .ok (.getfield 45, 3) := by decide +kernel
theorem dX5_put_67 : decode cX5_put 67 = .ok (.getfield 91, 3) := by decide +kernel
theorem dX5_put_70 : decode cX5_put 70 = .ok (.iload_n 3, 1) := by decide +kernel
theorem dX5_put_71 : decode cX5_put 71 = .ok (.bipush 6, 2) := by decide +kernel
theorem dX5_put_73 : decode cX5_put 73 = .ok (.iload_n 1, 1) := by decide +kernel
theorem dX5_put_74 : decode cX5_put 74 = .ok (.imul, 1) := by decide +kernel
theorem dX5_put_75 : decode cX5_put 75 = .ok (.iload_n 2, 1) := by decide +kernel
theorem dX5_put_76 : decode cX5_put 76 = .ok (.iadd, 1) := by decide +kernel
theorem dX5_put_77 : decode cX5_put 77 = .ok (.iastore, 1) := by decide +kernel
theorem dX5_put_78 : decode cX5_put 78 = .ok (.aload_n 0, 1) := by decide +kernel
theorem dX5_put_79 : decode cX5_put 79 = .ok (.getfield 16, 3) := by decide +kernel
theorem dX5_put_82 : decode cX5_put 82 = .ok (.bipush 6, 2) := by decide +kernel
theorem dX5_put_84 : decode cX5_put 84 = .ok (.iload_n 1, 1) := by decide +kernel
theorem dX5_put_85 : decode cX5_put 85 = .ok (.imul, 1) := by decide +kernel
theorem dX5_put_86 : decode cX5_put 86 = .ok (.iload_n 2, 1) := by decide +kernel
theorem dX5_put_87 : decode cX5_put 87 = .ok (.iadd, 1) := by decide +kernel
theorem dX5_put_88 : decode cX5_put 88 = .ok (.iaload, 1) := by decide +kernel
theorem dX5_put_89 : decode cX5_put 89 = .ok (.ireturn, 1) := by decide +kernel
theorem dX5_leave_0 : decode cX5_leave 0 = .ok (.aload_n 0, 1) := by decide +kernel
theorem dX5_leave_1 : decode cX5_leave 1 = .ok (.iconst 0, 1) := by decide +kernel
theorem dX5_leave_2 : decode cX5_leave 2 = .ok (.putfield 52, 3) := by decide +kernel
theorem dX5_leave_5 : decode cX5_leave 5 = .ok (.aload_n 0, 1) := by decide +kernel
theorem dX5_leave_6 : decode cX5_leave 6 = .ok (.iload_n 1, 1) := by decide +kernel
theorem dX5_leave_7 : decode cX5_leave 7 = .ok (.invokevirtual 94, 3) := by decide +kernel
theorem dX5_leave_10 : decode cX5_leave 10 = .ok (.ifCond .ne 9, 3) := by decide +kernel
theorem dX5_leave_13 : decode cX5_leave 13 = .ok (.aload_n 0, 1) := by decide +kernel
theorem dX5_leave_14 : decode cX5_leave 14 = .ok (.iconst 1, 1) := by decide +kernel
theorem dX5_leave_15 : decode cX5_leave 15 = .ok (.invokevirtual 84, 3) := by decide +kernel
theorem dX5_leave_18 : decode cX5_leave 18 = .ok (.ireturn, 1) := by decide +kernel
theorem dX5_leave_19 : decode cX5_leave 19 = .ok (.aload_n 0, 1) := by decide +kernel
theorem dX5_leave_20 : decode cX5_leave 20 = .ok (.getfield 45, 3) := by decide +kernel
theorem dX5_leave_23 : decode cX5_leave 23 = .ok (.getfield 91, 3) := by decide +kernel
theorem dX5_leave_26 : decode cX5_leave 26 = .ok (.iload_n 1, 1) := by decide +kernel
theorem dX5_leave_27 : decode cX5_leave 27 = .ok (.iaload, 1) := by decide +kernel
theorem dX5_leave_28 : decode cX5_leave 28 = .ok (.istore_n 2, 1) := by decide +kernel
theorem dX5_leave_29 : decode cX5_leave 29 = .ok (.iload_n 2, 1) := by decide +kernel
theorem dX5_leave_30 : decode cX5_leave 30 = .ok (.iconst (-1), 1) := by decide +kernel
theorem dX5_leave_31 : decode cX5_leave 31 = .ok (.if_icmp .ne 9, 3) := by decide +kernel
theorem dX5_leave_34 : decode cX5_leave 34 = .ok (.aload_n 0, 1) := by decide +kernel
theorem dX5_leave_35 : decode cX5_leave 35 = .ok (.iconst 2, 1) := by decide +kernel
theorem dX5_leave_36 : decode cX5_leave 36 = .ok (.invokevirtual 84, 3) := by decide +kernel
theorem dX5_leave_39 : decode cX5_leave 39 = .ok (.ireturn, 1) := by decide +kernel
theorem dX5_leave_40 : decode cX5_leave 40 = .ok (.aload_n 0, 1) := by decide +kernel
theorem dX5_leave_41 : decode cX5_leave 41 = .ok (.getfield 45, 3) := by decide +kernel
theorem dX5_leave_44 : decode cX5_leave 44 = .ok (.getfield 91, 3) := by decide +kernel
theorem dX5_leave_47 : decode cX5_leave 47 = .ok (.iload_n 1, 1) := by decide +kernel
theorem dX5_leave_48 : decode cX5_leave 48 = .ok (.iconst (-1), 1) := by decide +kernel
theorem dX5_leave_49 : decode cX5_leave 49 = .ok (.iastore, 1) := by decide +kernel
theorem dX5_leave_50 : decode cX5_leave 50 = .ok (.bipush 10, 2) := by decide +kernel
theorem dX5_leave_52 : decode cX5_leave 52 = .ok (.iload_n 2, 1) := by decide +kernel
theorem dX5_leave_53 : decode cX5_leave 53 = .ok (.bipush 6, 2) := by decide +kernel
theorem dX5_leave_55 : decode cX5_leave 55 = .ok (.idiv, 1) := by decide +kernel
theorem dX5_leave_56 : decode cX5_leave 56 = .ok (.imul, 1) := by decide +kernel
theorem dX5_leave_57 : decode cX5_leave 57 = .ok (.iload_n 2, 1) := by decide +kernel
theorem dX5_leave_58 : decode cX5_leave 58 = .ok (.bipush 6, 2) := by decide +kernel
theorem dX5_leave_60 : decode cX5_leave 60 = .ok (.irem, 1) := by decide +kernel
theorem dX5_leave_61 : decode cX5_leave 61 = .ok (.iadd, 1) := by decide +kernel
theorem dX5_leave_62 : decode cX5_leave 62 = .ok (.ireturn, 1) := by decide +kernel
theorem dX5_ringerTold_0 : decode cX5_ringerTold 0 = .ok (.iconst 1, 1) := by decide +kernel
theorem dX5_ringerTold_1 : decode cX5_ringerTold 1 = .ok (.istore 4, 2) := by decide +kernel
theorem dX5_ringerTold_3 : decode cX5_ringerTold 3 = .ok (.iconst 0, 1) := by decide +kernel
theorem dX5_ringerTold_4 : decode cX5_ringerTold 4 = .ok (.istore 5, 2) := by decide +kernel
theorem dX5_ringerTold_6 : decode cX5_ringerTold 6 = .ok (.iload 5, 2) := by decide +kernel
theorem dX5_ringerTold_8 : decode cX5_ringerTold 8 = .ok (.aload_n 0, 1) := by decide +kernel
theorem dX5_ringerTold_9 : decode cX5_ringerTold 9 = .ok (.getfield 56, 3) := by decide +kernel
theorem dX5_ringerTold_12 : decode cX5_ringerTold 12 = .ok (.if_icmp .ge 51, 3) := by decide +kernel
theorem dX5_ringerTold_15 : decode cX5_ringerTold 15 = .ok (.iload 4, 2) := by decide +kernel
theorem dX5_ringerTold_17 : decode cX5_ringerTold 17 = .ok (.aload_n 0, 1) := by decide +kernel
theorem dX5_ringerTold_18 : decode cX5_ringerTold 18 = .ok (.getfield 9, 3) := by decide +kernel
theorem dX5_ringerTold_21 : decode cX5_ringerTold 21 = .ok (.iload 5, 2) := by decide +kernel
theorem dX5_ringerTold_23 : decode cX5_ringerTold 23 = .ok (.iaload, 1) := by decide +kernel
theorem dX5_ringerTold_24 : decode cX5_ringerTold 24 = .ok (.aload_n 0, 1) := by decide +kernel
theorem dX5_ringerTold_25 : decode cX5_ringerTold 25 = .ok (.getfield 9, 3) := by decide +kernel
theorem dX5_ringerTold_28 : decode cX5_ringerTold 28 = .ok (.iload_n 2, 1) := by decide +kernel
theorem dX5_ringerTold_29 : decode cX5_ringerTold 29 = .ok (.iaload, 1) := by decide +kernel
theorem dX5_ringerTold_30 : decode cX5_ringerTold 30 = .ok (.if_icmp .ne 23, 3) := by decide +kernel
theorem dX5_ringerTold_33 : decode cX5_ringerTold 33 = .ok (.aload_n 1, 1) := by decide +kernel
theorem dX5_ringerTold_34 : decode cX5_ringerTold 34 = .ok (.getfield 88, 3) := by decide +kernel
theorem dX5_ringerTold_37 : decode cX5_ringerTold 37 = .ok (.iload 5, 2) := by decide +kernel
theorem dX5_ringerTold_39 : decode cX5_ringerTold 39 = .ok (.iaload, 1) := by decide +kernel
theorem dX5_ringerTold_40 : decode cX5_ringerTold 40 = .ok (.aload_n 1, 1) := by decide +kernel
theorem dX5_ringerTold_41 : decode cX5_ringerTold 41 = .ok (.getfield 88, 3) := by decide +kernel
theorem dX5_ringerTold_44 : decode cX5_ringerTold 44 = .ok (.iload_n 2, 1) := by decide +kernel
theorem dX5_ringerTold_45 : decode cX5_ringerTold 45 = .ok (.iaload, 1) := by decide +kernel
theorem dX5_ringerTold_46 : decode cX5_ringerTold 46 = .ok (.if_icmp .le 7, 3) := by decide +kernel
theorem dX5_ringerTold_49 : decode cX5_ringerTold 49 = .ok (.iconst 1, 1) := by decide +kernel
theorem dX5_ringerTold_50 : decode cX5_ringerTold 50 = .ok (.goto 4, 3) := by decide +kernel
theorem dX5_ringerTold_53 : decode cX5_ringerTold 53 = .ok (.iconst 0, 1) := by decide +kernel
theorem dX5_ringerTold_54 : decode cX5_ringerTold 54 = .ok (.iadd, 1) := by decide +kernel
theorem dX5_ringerTold_55 : decode cX5_ringerTold 55 = .ok (.istore 4, 2) := by decide +kernel
theorem dX5_ringerTold_57 : decode cX5_ringerTold 57 = .ok (.iinc 5 1, 3) := by decide +kernel
theorem dX5_ringerTold_60 : decode cX5_ringerTold 60 = .ok (.goto (-54), 3) := by decide +kernel
theorem dX5_ringerTold_63 : decode cX5_ringerTold 63 = .ok (.aload_n 1, 1) := by decide +kernel
theorem dX5_ringerTold_64 : decode cX5_ringerTold 64 = .ok (.getfield 91, 3) := by decide +kernel
theorem dX5_ringerTold_67 : decode cX5_ringerTold 67 = .ok (.iload_n 2, 1) := by decide +kernel
theorem dX5_ringerTold_68 : decode cX5_ringerTold 68 = .ok (.iaload, 1) := by decide +kernel
theorem dX5_ringerTold_69 : decode cX5_ringerTold 69 = .ok (.istore 5, 2) := by decide +kernel
theorem dX5_ringerTold_71 : decode cX5_ringerTold 71 = .ok (.bipush 8, 2) := by decide +kernel
theorem dX5_ringerTold_73 : decode cX5_ringerTold 73 = .ok (.newarray .int, 2) := by decide +kernel
theorem dX5_ringerTold_75 : decode cX5_ringerTold 75 = .ok (.dup, 1) := by decide +kernel
theorem dX5_ringerTold_76 : decode cX5_ringerTold 76 = .ok (.iconst 0, 1) := by decide +kernel
theorem dX5_ringerTold_77 : decode cX5_ringerTold 77 = .ok (.aload_n 0, 1) := by decide +kernel
theorem dX5_ringerTold_78 : decode cX5_ringerTold 78 = .ok (.getfield 9, 3) := by decide +kernel
theorem dX5_ringerTold_81 : decode cX5_ringerTold 81 = .ok (.iload_n 2, 1) := by decide +kernel
theorem dX5_ringerTold_82 : decode cX5_ringerTold 82 = .ok (.iaload, 1) := by decide +kernel
theorem dX5_ringerTold_83 : decode cX5_ringerTold 83 = .ok (.iastore, 1) := by decide +kernel
theorem dX5_ringerTold_84 : decode cX5_ringerTold 84 = .ok (.dup, 1) := by decide +kernel
theorem dX5_ringerTold_85 : decode cX5_ringerTold 85 = .ok (.iconst 1, 1) := by decide +kernel
theorem dX5_ringerTold_86 : decode cX5_ringerTold 86 = .ok (.aload_n 0, 1) := by decide +kernel
theorem dX5_ringerTold_87 : decode cX5_ringerTold 87 = .ok (.getfield 13, 3) := by decide +kernel
theorem dX5_ringerTold_90 : decode cX5_ringerTold 90 = .ok (.iload_n 2, 1) := by decide +kernel
theorem dX5_ringerTold_91 : decode cX5_ringerTold 91 = .ok (.iaload, 1) := by decide +kernel
theorem dX5_ringerTold_92 : decode cX5_ringerTold 92 = .ok (.iastore, 1) := by decide +kernel
theorem dX5_ringerTold_93 : decode cX5_ringerTold 93 = .ok (.dup, 1) := by decide +kernel
theorem dX5_ringerTold_94 : decode cX5_ringerTold 94 = .ok (.iconst 2, 1) := by decide +kernel
theorem dX5_ringerTold_95 : decode cX5_ringerTold 95 = .ok (.aload_n 1, 1) := by decide +kernel
theorem dX5_ringerTold_96 : decode cX5_ringerTold 96 = .ok (.getfield 88, 3) := by decide +kernel
theorem dX5_ringerTold_99 : decode cX5_ringerTold 99 = .ok (.iload_n 2, 1) := by decide +kernel
theorem dX5_ringerTold_100 : decode cX5_ringerTold 100 = .ok (.iaload, 1) := by decide +kernel
theorem dX5_ringerTold_101 : decode cX5_ringerTold 101 = .ok (.iastore, 1) := by decide +kernel
theorem dX5_ringerTold_102 : decode cX5_ringerTold 102 = .ok (.dup, 1) := by decide +kernel
theorem dX5_ringerTold_103 : decode cX5_ringerTold 103 = .ok (.iconst 3, 1) := by decide +kernel
theorem dX5_ringerTold_104 : decode cX5_ringerTold 104 = .ok (.aload_n 1, 1) := by decide +kernel
theorem dX5_ringerTold_105 : decode cX5_ringerTold 105 = .ok (.getfield 120, 3) := by decide +kernel
theorem dX5_ringerTold_108 : decode cX5_ringerTold 108 = .ok (.iload_n 2, 1) := by decide +kernel
theorem dX5_ringerTold_109 : decode cX5_ringerTold 109 = .ok (.iaload, 1) := by decide +kernel
theorem dX5_ringerTold_110 : decode cX5_ringerTold 110 = .ok (.iastore, 1) := by decide +kernel
theorem dX5_ringerTold_111 : decode cX5_ringerTold 111 = .ok (.dup, 1) := by decide +kernel
theorem dX5_ringerTold_112 : decode cX5_ringerTold 112 = .ok (.iconst 4, 1) := by decide +kernel
theorem dX5_ringerTold_113 : decode cX5_ringerTold 113 = .ok (.iload 5, 2) := by decide +kernel
theorem dX5_ringerTold_115 : decode cX5_ringerTold 115 = .ok (.ifCond .ge 7, 3) := by decide +kernel
theorem dX5_ringerTold_118 : decode cX5_ringerTold 118 = .ok (.iconst (-1), 1) := by decide +kernel
theorem dX5_ringerTold_119 : decode cX5_ringerTold 119 = .ok (.goto 8, 3) := by decide +kernel
theorem dX5_ringerTold_122 : decode cX5_ringerTold 122 = .ok (.iload 5, 2) := by decide +kernel
theorem dX5_ringerTold_124 : decode cX5_ringerTold 124 = .ok (.bipush 6, 2) := by decide +kernel
theorem dX5_ringerTold_126 : decode cX5_ringerTold 126 = .ok (.idiv, 1) := by decide +kernel
theorem dX5_ringerTold_127 : decode cX5_ringerTold 127 = .ok (.iastore, 1) := by decide +kernel
theorem dX5_ringerTold_128 : decode cX5_ringerTold 128 = .ok (.dup, 1) := by decide +kernel
theorem dX5_ringerTold_129 : decode cX5_ringerTold 129 = .ok (.iconst 5, 1) := by decide +kernel
theorem dX5_ringerTold_130 : decode cX5_ringerTold 130 = .ok (.iload 5, 2) := by decide +kernel
theorem dX5_ringerTold_132 : decode cX5_ringerTold 132 = .ok (.ifCond .ge 7, 3) := by decide +kernel
theorem dX5_ringerTold_135 : decode cX5_ringerTold 135 = .ok (.iconst (-1), 1) := by decide +kernel
theorem dX5_ringerTold_136 : decode cX5_ringerTold 136 = .ok (.goto 8, 3) := by decide +kernel
theorem dX5_ringerTold_139 : decode cX5_ringerTold 139 = .ok (.iload 5, 2) := by decide +kernel
theorem dX5_ringerTold_141 : decode cX5_ringerTold 141 = .ok (.bipush 6, 2) := by decide +kernel
theorem dX5_ringerTold_143 : decode cX5_ringerTold 143 = .ok (.irem, 1) := by decide +kernel
theorem dX5_ringerTold_144 : decode cX5_ringerTold 144 = .ok (.iastore, 1) := by decide +kernel
theorem dX5_ringerTold_145 : decode cX5_ringerTold 145 = .ok (.dup, 1) := by decide +kernel
theorem dX5_ringerTold_146 : decode cX5_ringerTold 146 = .ok (.bipush 6, 2) := by decide +kernel
theorem dX5_ringerTold_148 : decode cX5_ringerTold 148 = .ok (.aload_n 1, 1) := by decide +kernel
theorem dX5_ringerTold_149 : decode cX5_ringerTold 149 = .ok (.getfield 123, 3) := by decide +kernel
theorem dX5_ringerTold_152 : decode cX5_ringerTold 152 = .ok (.iload_n 2, 1) := by decide +kernel
theorem dX5_ringerTold_153 : decode cX5_ringerTold 153 = .ok (.iaload, 1) := by decide +kernel
theorem dX5_ringerTold_154 : decode cX5_ringerTold 154 = .ok (.iastore, 1) := by decide +kernel
theorem dX5_ringerTold_155 : decode cX5_ringerTold 155 = .ok (.dup, 1) := by decide +kernel
theorem dX5_ringerTold_156 : decode cX5_ringerTold 156 = .ok (.bipush 7, 2) := by decide +kernel
theorem dX5_ringerTold_158 : decode cX5_ringerTold 158 = .ok (.iload 4, 2) := by decide +kernel
theorem dX5_ringerTold_160 : decode cX5_ringerTold 160 = .ok (.iastore, 1) := by decide +kernel
theorem dX5_ringerTold_161 : decode cX5_ringerTold 161 = .ok (.astore 6, 2) := by decide +kernel
theorem dX5_ringerTold_163 : decode cX5_ringerTold 163 = .ok (.aload 6, 2) := by decide +kernel
theorem dX5_ringerTold_165 : decode cX5_ringerTold 165 = .ok (.iload_n 3, 1) := by decide +kernel
theorem dX5_ringerTold_166 : decode cX5_ringerTold 166 = .ok (.iaload, 1) := by decide +kernel
theorem dX5_ringerTold_167 : decode cX5_ringerTold 167 = .ok (.ireturn, 1) := by decide +kernel
theorem dX5_told_0 : decode cX5_told 0 = .ok (.aload_n 0, 1) := by decide +kernel
theorem dX5_told_1 : decode cX5_told 1 = .ok (.iconst 0, 1) := by decide +kernel
theorem dX5_told_2 : decode cX5_told 2 = .ok (.putfield 52, 3) := by decide +kernel
theorem dX5_told_5 : decode cX5_told 5 = .ok (.aload_n 0, 1) := by decide +kernel
theorem dX5_told_6 : decode cX5_told 6 = .ok (.iload_n 1, 1) := by decide +kernel
theorem dX5_told_7 : decode cX5_told 7 = .ok (.invokevirtual 94, 3) := by decide +kernel
theorem dX5_told_10 : decode cX5_told 10 = .ok (.ifCond .eq 26, 3) := by decide +kernel
theorem dX5_told_13 : decode cX5_told 13 = .ok (.iload_n 2, 1) := by decide +kernel
theorem dX5_told_14 : decode cX5_told 14 = .ok (.iconst 0, 1) := by decide +kernel
theorem dX5_told_15 : decode cX5_told 15 = .ok (.bipush 7, 2) := by decide +kernel
theorem dX5_told_17 : decode cX5_told 17 = .ok (.invokestatic 59, 3) := by decide +kernel
theorem dX5_told_20 : decode cX5_told 20 = .ok (.ifCond .eq 16, 3) := by decide +kernel
theorem dX5_told_23 : decode cX5_told 23 = .ok (.aload_n 0, 1) := by decide +kernel
theorem dX5_told_24 : decode cX5_told 24 = .ok (.aload_n 0, 1) := by decide +kernel
theorem dX5_told_25 : decode cX5_told 25 = .ok (.getfield 45, 3) := by decide +kernel
theorem dX5_told_28 : decode cX5_told 28 = .ok (.iload_n 1, 1) := by decide +kernel
theorem dX5_told_29 : decode cX5_told 29 = .ok (.iload_n 2, 1) := by decide +kernel
theorem dX5_told_30 : decode cX5_told 30 = .ok (.invokevirtual 126, 3) := by decide +kernel
theorem dX5_told_33 : decode cX5_told 33 = .ok (.goto 8, 3) := by decide +kernel
theorem dX5_told_36 : decode cX5_told 36 = .ok (.aload_n 0, 1) := by decide +kernel
theorem dX5_told_37 : decode cX5_told 37 = .ok (.iconst 1, 1) := by decide +kernel
theorem dX5_told_38 : decode cX5_told 38 = .ok (.invokevirtual 84, 3) := by decide +kernel
theorem dX5_told_41 : decode cX5_told 41 = .ok (.ireturn, 1) := by decide +kernel
theorem dX5_bellTold_0 : decode cX5_bellTold 0 = .ok (.bipush 6, 2) := by decide +kernel
theorem dX5_bellTold_2 : decode cX5_bellTold 2 = .ok (.iload_n 1, 1) := by decide +kernel
theorem dX5_bellTold_3 : decode cX5_bellTold 3 = .ok (.imul, 1) := by decide +kernel
theorem dX5_bellTold_4 : decode cX5_bellTold 4 = .ok (.iload_n 2, 1) := by decide +kernel
theorem dX5_bellTold_5 : decode cX5_bellTold 5 = .ok (.iadd, 1) := by decide +kernel
theorem dX5_bellTold_6 : decode cX5_bellTold 6 = .ok (.istore 4, 2) := by decide +kernel
theorem dX5_bellTold_8 : decode cX5_bellTold 8 = .ok (.iload_n 3, 1) := by decide +kernel
theorem dX5_bellTold_9 : decode cX5_bellTold 9 = .ok (.ifCond .ne 13, 3) := by decide +kernel
theorem dX5_bellTold_12 : decode cX5_bellTold 12 = .ok (.aload_n 0, 1) := by decide +kernel
theorem dX5_bellTold_13 : decode cX5_bellTold 13 = .ok (.getfield 16, 3) := by decide +kernel
theorem dX5_bellTold_16 : decode cX5_bellTold 16 = .ok (.iload 4, 2) := by decide +kernel
theorem dX5_bellTold_18 : decode cX5_bellTold 18 = .ok (.iaload, 1) := by decide +kernel
theorem dX5_bellTold_19 : decode cX5_bellTold 19 = .ok (.goto 40, 3) := by decide +kernel
theorem dX5_bellTold_22 : decode cX5_bellTold 22 = .ok (.iload_n 3, 1) := by decide +kernel
theorem dX5_bellTold_23 : decode cX5_bellTold 23 = .ok (.iconst 1, 1) := by decide +kernel
theorem dX5_bellTold_24 : decode cX5_bellTold 24 = .ok (.if_icmp .ne 15, 3) := by decide +kernel
theorem dX5_bellTold_27 : decode cX5_bellTold 27 = .ok (.aload_n 0, 1) := by decide +kernel
theorem dX5_bellTold_28 : decode cX5_bellTold 28 = .ok (.getfield 45, 3) := by decide +kernel
theorem dX5_bellTold_31 : decode cX5_bellTold 31 = .ok (.iload 4, 2) := by decide +kernel
theorem dX5_bellTold_33 : decode cX5_bellTold 33 = .ok (.invokevirtual 117, 3) := by decide +kernel
theorem dX5_bellTold_36 : decode cX5_bellTold 36 = .ok (.goto 23, 3) := by decide +kernel
theorem dX5_bellTold_39 : decode cX5_bellTold 39 = .ok (.aload_n 0, 1) := by decide +kernel
theorem dX5_bellTold_40 : decode cX5_bellTold 40 = .ok (.getfield 49, 3) := by decide +kernel
theorem dX5_bellTold_43 : decode cX5_bellTold 43 = .ok (.aload_n 0, 1) := by decide +kernel
theorem dX5_bellTold_44 : decode cX5_bellTold 44 = .ok (.getfield 45, 3) := by decide +kernel
theorem dX5_bellTold_47 : decode cX5_bellTold 47 = .ok (.invokevirtual 130, 3) := by decide +kernel
theorem dX5_bellTold_50 : decode cX5_bellTold 50 = .ok (.iload_n 1, 1) := by decide +kernel
theorem dX5_bellTold_51 : decode cX5_bellTold 51 = .ok (.invokevirtual 110, 3) := by decide +kernel
theorem dX5_bellTold_54 : decode cX5_bellTold 54 = .ok (.iload 4, 2) := by decide +kernel
theorem dX5_bellTold_56 : decode cX5_bellTold 56 = .ok (.invokevirtual 117, 3) := by decide +kernel
theorem dX5_bellTold_59 : decode cX5_bellTold 59 = .ok (.ireturn, 1) := by decide +kernel
theorem dX5_bell_0 : decode cX5_bell 0 = .ok (.aload_n 0, 1) := by decide +kernel
theorem dX5_bell_1 : decode cX5_bell 1 = .ok (.iconst 0, 1) := by decide +kernel
theorem dX5_bell_2 : decode cX5_bell 2 = .ok (.putfield 52, 3) := by decide +kernel
theorem dX5_bell_5 : decode cX5_bell 5 = .ok (.iload_n 1, 1) := by decide +kernel
theorem dX5_bell_6 : decode cX5_bell 6 = .ok (.iload_n 2, 1) := by decide +kernel
theorem dX5_bell_7 : decode cX5_bell 7 = .ok (.invokestatic 106, 3) := by decide +kernel
theorem dX5_bell_10 : decode cX5_bell 10 = .ok (.ifCond .eq 22, 3) := by decide +kernel
theorem dX5_bell_13 : decode cX5_bell 13 = .ok (.iload_n 3, 1) := by decide +kernel
theorem dX5_bell_14 : decode cX5_bell 14 = .ok (.iconst 0, 1) := by decide +kernel
theorem dX5_bell_15 : decode cX5_bell 15 = .ok (.iconst 2, 1) := by decide +kernel
theorem dX5_bell_16 : decode cX5_bell 16 = .ok (.invokestatic 59, 3) := by decide +kernel
theorem dX5_bell_19 : decode cX5_bell 19 = .ok (.ifCond .eq 13, 3) := by decide +kernel
theorem dX5_bell_22 : decode cX5_bell 22 = .ok (.aload_n 0, 1) := by decide +kernel
theorem dX5_bell_23 : decode cX5_bell 23 = .ok (.iload_n 1, 1) := by decide +kernel
theorem dX5_bell_24 : decode cX5_bell 24 = .ok (.iload_n 2, 1) := by decide +kernel
theorem dX5_bell_25 : decode cX5_bell 25 = .ok (.iload_n 3, 1) := by decide +kernel
theorem dX5_bell_26 : decode cX5_bell 26 = .ok (.invokevirtual 134, 3) := by decide +kernel
theorem dX5_bell_29 : decode cX5_bell 29 = .ok (.goto 8, 3) := by decide +kernel
theorem dX5_bell_32 : decode cX5_bell 32 = .ok (.aload_n 0, 1) := by decide +kernel
theorem dX5_bell_33 : decode cX5_bell 33 = .ok (.iconst 1, 1) := by decide +kernel
theorem dX5_bell_34 : decode cX5_bell 34 = .ok (.invokevirtual 84, 3) := by decide +kernel
theorem dX5_bell_37 : decode cX5_bell 37 = .ok (.ireturn, 1) := by decide +kernel
theorem dX5_method_0 : decode cX5_method 0 = .ok (.aload_n 0, 1) := by decide +kernel
theorem dX5_method_1 : decode cX5_method 1 = .ok (.iconst 0, 1) := by decide +kernel
theorem dX5_method_2 : decode cX5_method 2 = .ok (.putfield 52, 3) := by decide +kernel
theorem dX5_method_5 : decode cX5_method 5 = .ok (.aload_n 0, 1) := by decide +kernel
theorem dX5_method_6 : decode cX5_method 6 = .ok (.getfield 63, 3) := by decide +kernel
theorem dX5_method_9 : decode cX5_method 9 = .ok (.iconst 5, 1) := by decide +kernel
theorem dX5_method_10 : decode cX5_method 10 = .ok (.if_icmp .ne 9, 3) := by decide +kernel
theorem dX5_method_13 : decode cX5_method 13 = .ok (.aload_n 0, 1) := by decide +kernel
theorem dX5_method_14 : decode cX5_method 14 = .ok (.iconst 1, 1) := by decide +kernel
theorem dX5_method_15 : decode cX5_method 15 = .ok (.invokevirtual 84, 3) := by decide +kernel
theorem dX5_method_18 : decode cX5_method 18 = .ok (.ireturn, 1) := by decide +kernel
theorem dX5_method_19 : decode cX5_method 19 = .ok (.aload_n 0, 1) := by decide +kernel
theorem dX5_method_20 : decode cX5_method 20 = .ok (.dup, 1) := by decide +kernel
theorem dX5_method_21 : decode cX5_method 21 = .ok (.getfield 63, 3) := by decide +kernel
theorem dX5_method_24 : decode cX5_method 24 = .ok (.iconst 1, 1) := by decide +kernel
theorem dX5_method_25 : decode cX5_method 25 = .ok (.iadd, 1) := by decide +kernel
theorem dX5_method_26 : decode cX5_method 26 = .ok (.putfield 63, 3) := by decide +kernel
theorem dX5_method_29 : decode cX5_method 29 = .ok (.aload_n 0, 1) := by decide +kernel
theorem dX5_method_30 : decode cX5_method 30 = .ok (.getfield 63, 3) := by decide +kernel
theorem dX5_method_33 : decode cX5_method 33 = .ok (.iconst 1, 1) := by decide +kernel
theorem dX5_method_34 : decode cX5_method 34 = .ok (.isub, 1) := by decide +kernel
theorem dX5_method_35 : decode cX5_method 35 = .ok (.ireturn, 1) := by decide +kernel
theorem dX5_add_0 : decode cX5_add 0 = .ok (.aload_n 0, 1) := by decide +kernel
theorem dX5_add_1 : decode cX5_add 1 = .ok (.iconst 0, 1) := by decide +kernel
theorem dX5_add_2 : decode cX5_add 2 = .ok (.putfield 52, 3) := by decide +kernel
theorem dX5_add_5 : decode cX5_add 5 = .ok (.aload_n 0, 1) := by decide +kernel
theorem dX5_add_6 : decode cX5_add 6 = .ok (.iload_n 1, 1) := by decide +kernel
theorem dX5_add_7 : decode cX5_add 7 = .ok (.invokevirtual 138, 3) := by decide +kernel
theorem dX5_add_10 : decode cX5_add 10 = .ok (.ifCond .ne 9, 3) := by decide +kernel
theorem dX5_add_13 : decode cX5_add 13 = .ok (.aload_n 0, 1) := by decide +kernel
theorem dX5_add_14 : decode cX5_add 14 = .ok (.iconst 1, 1) := by decide +kernel
theorem dX5_add_15 : decode cX5_add 15 = .ok (.invokevirtual 84, 3) := by decide +kernel
theorem dX5_add_18 : decode cX5_add 18 = .ok (.ireturn, 1) := by decide +kernel
theorem dX5_add_19 : decode cX5_add 19 = .ok (.iload_n 2, 1) := by decide +kernel
theorem dX5_add_20 : decode cX5_add 20 = .ok (.iconst 0, 1) := by decide +kernel
theorem dX5_add_21 : decode cX5_add 21 = .ok (.bipush 31, 2) := by decide +kernel
theorem dX5_add_23 : decode cX5_add 23 = .ok (.invokestatic 59, 3) := by decide +kernel
theorem dX5_add_26 : decode cX5_add 26 = .ok (.ifCond .eq 11, 3) := by decide +kernel
theorem dX5_add_29 : decode cX5_add 29 = .ok (.iload_n 2, 1) := by decide +kernel
theorem dX5_add_30 : decode cX5_add 30 = .ok (.iload_n 2, 1) := by decide +kernel
theorem dX5_add_31 : decode cX5_add 31 = .ok (.iconst 1, 1) := by decide +kernel
theorem dX5_add_32 : decode cX5_add 32 = .ok (.ishl, 1) := by decide +kernel
theorem dX5_add_33 : decode cX5_add 33 = .ok (.iand, 1) := by decide +kernel
theorem dX5_add_34 : decode cX5_add 34 = .ok (.ifCond .eq 9, 3) := by decide +kernel
theorem dX5_add_37 : decode cX5_add 37 = .ok (.aload_n 0, 1) := by decide +kernel
theorem dX5_add_38 : decode cX5_add 38 = .ok (.iconst 2, 1) := by decide +kernel
theorem dX5_add_39 : decode cX5_add 39 = .ok (.invokevirtual 84, 3) := by decide +kernel
theorem dX5_add_42 : decode cX5_add 42 = .ok (.ireturn, 1) := by decide +kernel
theorem dX5_add_43 : decode cX5_add 43 = .ok (.aload_n 0, 1) := by decide +kernel
theorem dX5_add_44 : decode cX5_add 44 = .ok (.getfield 19, 3) := by decide +kernel
theorem dX5_add_47 : decode cX5_add 47 = .ok (.iload_n 1, 1) := by decide +kernel
theorem dX5_add_48 : decode cX5_add 48 = .ok (.iaload, 1) := by decide +kernel
theorem dX5_add_49 : decode cX5_add 49 = .ok (.bipush 12, 2) := by decide +kernel
theorem dX5_add_51 : decode cX5_add 51 = .ok (.if_icmp .ne 9, 3) := by decide +kernel
theorem dX5_add_54 : decode cX5_add 54 = .ok (.aload_n 0, 1) := by decide +kernel
theorem dX5_add_55 : decode cX5_add 55 = .ok (.iconst 3, 1) := by decide +kernel
theorem dX5_add_56 : decode cX5_add 56 = .ok (.invokevirtual 84, 3) := by decide +kernel
theorem dX5_add_59 : decode cX5_add 59 = .ok (.ireturn, 1) := by decide +kernel
theorem dX5_add_60 : decode cX5_add 60 = .ok (.aload_n 0, 1) := by decide +kernel
theorem dX5_add_61 : decode cX5_add 61 = .ok (.getfield 22, 3) := by decide +kernel
theorem dX5_add_64 : decode cX5_add 64 = .ok (.bipush 12, 2) := by decide +kernel
theorem dX5_add_66 : decode cX5_add 66 = .ok (.iload_n 1, 1) := by decide +kernel
theorem dX5_add_67 : decode cX5_add 67 = .ok (.imul, 1) := by decide +kernel
theorem dX5_add_68 : decode cX5_add 68 = .ok (.aload_n 0, 1) := by decide +kernel
theorem dX5_add_69 : decode cX5_add 69 = .ok (.getfield 19, 3) := by decide +kernel
theorem dX5_add_72 : decode cX5_add 72 = .ok (.iload_n 1, 1) := by decide +kernel
theorem dX5_add_73 : decode cX5_add 73 = .ok (.iaload, 1) := by decide +kernel
theorem dX5_add_74 : decode cX5_add 74 = .ok (.iadd, 1) := by decide +kernel
theorem dX5_add_75 : decode cX5_add 75 = .ok (.iload_n 2, 1) := by decide +kernel
theorem dX5_add_76 : decode cX5_add 76 = .ok (.iastore, 1) := by decide +kernel
theorem dX5_add_77 : decode cX5_add 77 = .ok (.aload_n 0, 1) := by decide +kernel
theorem dX5_add_78 : decode cX5_add 78 = .ok (.getfield 19, 3) := by decide +kernel
theorem dX5_add_81 : decode cX5_add 81 = .ok (.iload_n 1, 1) := by decide +kernel
theorem dX5_add_82 : decode cX5_add 82 = .ok (.dup2, 1) := by decide +kernel
theorem dX5_add_83 : decode cX5_add 83 = .ok (.iaload, 1) := by decide +kernel
theorem dX5_add_84 : decode cX5_add 84 = .ok (.iconst 1, 1) := by decide +kernel
theorem dX5_add_85 : decode cX5_add 85 = .ok (.iadd, 1) := by decide +kernel
theorem dX5_add_86 : decode cX5_add 86 = .ok (.iastore, 1) := by decide +kernel
theorem dX5_add_87 : decode cX5_add 87 = .ok (.aload_n 0, 1) := by decide +kernel
theorem dX5_add_88 : decode cX5_add 88 = .ok (.getfield 19, 3) := by decide +kernel
theorem dX5_add_91 : decode cX5_add 91 = .ok (.iload_n 1, 1) := by decide +kernel
theorem dX5_add_92 : decode cX5_add 92 = .ok (.iaload, 1) := by decide +kernel
theorem dX5_add_93 : decode cX5_add 93 = .ok (.ireturn, 1) := by decide +kernel
theorem dX5_methodTold_0 : decode cX5_methodTold 0 = .ok (.iconst 0, 1) := by decide +kernel
theorem dX5_methodTold_1 : decode cX5_methodTold 1 = .ok (.istore_n 3, 1) := by decide +kernel
theorem dX5_methodTold_2 : decode cX5_methodTold 2 = .ok (.aload_n 0, 1) := by decide +kernel
theorem dX5_methodTold_3 : decode cX5_methodTold 3 = .ok (.iload_n 1, 1) := by decide +kernel
theorem dX5_methodTold_4 : decode cX5_methodTold 4 = .ok (.iconst 1, 1) := by decide +kernel
theorem dX5_methodTold_5 : decode cX5_methodTold 5 = .ok (.invokevirtual 81, 3) := by decide +kernel
theorem dX5_methodTold_8 : decode cX5_methodTold 8 = .ok (.aload_n 0, 1) := by decide +kernel
theorem dX5_methodTold_9 : decode cX5_methodTold 9 = .ok (.getfield 25, 3) := by decide +kernel
theorem dX5_methodTold_12 : decode cX5_methodTold 12 = .ok (.aload_n 0, 1) := by decide +kernel
theorem dX5_methodTold_13 : decode cX5_methodTold 13 = .ok (.getfield 66, 3) := by decide +kernel
theorem dX5_methodTold_16 : decode cX5_methodTold 16 = .ok (.iaload, 1) := by decide +kernel
theorem dX5_methodTold_17 : decode cX5_methodTold 17 = .ok (.istore 4, 2) := by decide +kernel
theorem dX5_methodTold_19 : decode cX5_methodTold 19 = .ok (.iconst 5, 1) := by decide +kernel
theorem dX5_methodTold_20 : decode cX5_methodTold 20 = .ok (.istore 5, 2) := by decide +kernel
theorem dX5_methodTold_22 : decode cX5_methodTold 22 = .ok (.iload 5, 2) := by decide +kernel
theorem dX5_methodTold_24 : decode cX5_methodTold 24 = .ok (.ifCond .lt 34, 3) := by decide +kernel
theorem dX5_methodTold_27 : decode cX5_methodTold 27 = .ok (.iload_n 3, 1) := by decide +kernel
theorem dX5_methodTold_28 : decode cX5_methodTold 28 = .ok (.iload 4, 2) := by decide +kernel
theorem dX5_methodTold_30 : decode cX5_methodTold 30 = .ok (.bipush 6, 2) := by decide +kernel
theorem dX5_methodTold_32 : decode cX5_methodTold 32 = .ok (.irem, 1) := by decide +kernel
theorem dX5_methodTold_33 : decode cX5_methodTold 33 = .ok (.iload 5, 2) := by decide +kernel
theorem dX5_methodTold_35 : decode cX5_methodTold 35 = .ok (.if_icmp .ne 7, 3) := by decide +kernel
theorem dX5_methodTold_38 : decode cX5_methodTold 38 = .ok (.iconst 1, 1) := by decide +kernel
theorem dX5_methodTold_39 : decode cX5_methodTold 39 = .ok (.goto 4, 3) := by decide +kernel
theorem dX5_methodTold_42 : decode cX5_methodTold 42 = .ok (.iconst 0, 1) := by decide +kernel
theorem dX5_methodTold_43 : decode cX5_methodTold 43 = .ok (.iadd, 1) := by decide +kernel
theorem dX5_methodTold_44 : decode cX5_methodTold 44 = .ok (.istore_n 3, 1) := by decide +kernel
theorem dX5_methodTold_45 : decode cX5_methodTold 45 = .ok (.iload 4, 2) := by decide +kernel
theorem dX5_methodTold_47 : decode cX5_methodTold 47 = .ok (.bipush 6, 2) := by decide +kernel
theorem dX5_methodTold_49 : decode cX5_methodTold 49 = .ok (.idiv, 1) := by decide +kernel
theorem dX5_methodTold_50 : decode cX5_methodTold 50 = .ok (.istore 4, 2) := by decide +kernel
theorem dX5_methodTold_52 : decode cX5_methodTold 52 = .ok (.iinc 5 (-1), 3) := by decide +kernel
theorem dX5_methodTold_55 : decode cX5_methodTold 55 = .ok (.goto (-33), 3) := by decide +kernel
theorem dX5_methodTold_58 : decode cX5_methodTold 58 = .ok (.aload_n 0, 1) := by decide +kernel
theorem dX5_methodTold_59 : decode cX5_methodTold 59 = .ok (.iload_n 1, 1) := by decide +kernel
theorem dX5_methodTold_60 : decode cX5_methodTold 60 = .ok (.invokevirtual 141, 3) := by decide +kernel
theorem dX5_methodTold_63 : decode cX5_methodTold 63 = .ok (.istore 5, 2) := by decide +kernel
theorem dX5_methodTold_65 : decode cX5_methodTold 65 = .ok (.iconst 0, 1) := by decide +kernel
theorem dX5_methodTold_66 : decode cX5_methodTold 66 = .ok (.istore 6, 2) := by decide +kernel
theorem dX5_methodTold_68 : decode cX5_methodTold 68 = .ok (.iconst 0, 1) := by decide +kernel
theorem dX5_methodTold_69 : decode cX5_methodTold 69 = .ok (.istore 7, 2) := by decide +kernel
theorem dX5_methodTold_71 : decode cX5_methodTold 71 = .ok (.iconst 0, 1) := by decide +kernel
theorem dX5_methodTold_72 : decode cX5_methodTold 72 = .ok (.istore 8, 2) := by decide +kernel
theorem dX5_methodTold_74 : decode cX5_methodTold 74 = .ok (.iload 8, 2) := by decide +kernel
theorem dX5_methodTold_76 : decode cX5_methodTold 76 = .ok (.aload_n 0, 1) := by decide +kernel
theorem dX5_methodTold_77 : decode cX5_methodTold 77 = .ok (.getfield 66, 3) := by decide +kernel
theorem dX5_methodTold_80 : decode cX5_methodTold 80 = .ok (.if_icmp .gt 28, 3) := by decide +kernel
theorem dX5_methodTold_83 : decode cX5_methodTold 83 = .ok (.iload 6, 2) := by decide +kernel
theorem dX5_methodTold_85 : decode cX5_methodTold 85 = .ok (.aload_n 0, 1) := by decide +kernel
theorem dX5_methodTold_86 : decode cX5_methodTold 86 = .ok (.iload 8, 2) := by decide +kernel
theorem dX5_methodTold_88 : decode cX5_methodTold 88 = .ok (.invokevirtual 77, 3) := by decide +kernel
theorem dX5_methodTold_91 : decode cX5_methodTold 91 = .ok (.ifCond .eq 7, 3) := by decide +kernel
theorem dX5_methodTold_94 : decode cX5_methodTold 94 = .ok (.iconst 1, 1) := by decide +kernel
theorem dX5_methodTold_95 : decode cX5_methodTold 95 = .ok (.goto 4, 3) := by decide +kernel
theorem dX5_methodTold_98 : decode cX5_methodTold 98 = .ok (.iconst 0, 1) := by decide +kernel
theorem dX5_methodTold_99 : decode cX5_methodTold 99 = .ok (.iadd, 1) := by decide +kernel
theorem dX5_methodTold_100 : decode cX5_methodTold 100 = .ok (.istore 6, 2) := by decide +kernel
theorem dX5_methodTold_102 : decode cX5_methodTold 102 = .ok (.iinc 8 1, 3) := by decide +kernel
theorem dX5_methodTold_105 : decode cX5_methodTold 105 = .ok (.goto (-31), 3) := by decide +kernel
theorem dX5_methodTold_108 : decode cX5_methodTold 108 = .ok (.iconst 0, 1) := by decide +kernel
theorem dX5_methodTold_109 : decode cX5_methodTold 109 = .ok (.istore 8, 2) := by decide +kernel
theorem dX5_methodTold_111 : decode cX5_methodTold 111 = .ok (.iload 8, 2) := by decide +kernel
theorem dX5_methodTold_113 : decode cX5_methodTold 113 = .ok (.bipush 6, 2) := by decide +kernel
theorem dX5_methodTold_115 : decode cX5_methodTold 115 = .ok (.if_icmp .ge 20, 3) := by decide +kernel
theorem dX5_methodTold_118 : decode cX5_methodTold 118 = .ok (.iload 7, 2) := by decide +kernel
theorem dX5_methodTold_120 : decode cX5_methodTold 120 = .ok (.aload_n 0, 1) := by decide +kernel
theorem dX5_methodTold_121 : decode cX5_methodTold 121 = .ok (.iload 8, 2) := by decide +kernel
theorem dX5_methodTold_123 : decode cX5_methodTold 123 = .ok (.invokevirtual 144, 3) := by decide +kernel
theorem dX5_methodTold_126 : decode cX5_methodTold 126 = .ok (.iadd, 1) := by decide +kernel
theorem dX5_methodTold_127 : decode cX5_methodTold 127 = .ok (.istore 7, 2) := by decide +kernel
theorem dX5_methodTold_129 : decode cX5_methodTold 129 = .ok (.iinc 8 1, 3) := by decide +kernel
theorem dX5_methodTold_132 : decode cX5_methodTold 132 = .ok (.goto (-21), 3) := by decide +kernel
theorem dX5_methodTold_135 : decode cX5_methodTold 135 = .ok (.bipush 6, 2) := by decide +kernel
theorem dX5_methodTold_137 : decode cX5_methodTold 137 = .ok (.newarray .int, 2) := by decide +kernel
theorem dX5_methodTold_139 : decode cX5_methodTold 139 = .ok (.dup, 1) := by decide +kernel
theorem dX5_methodTold_140 : decode cX5_methodTold 140 = .ok (.iconst 0, 1) := by decide +kernel
theorem dX5_methodTold_141 : decode cX5_methodTold 141 = .ok (.aload_n 0, 1) := by decide +kernel
theorem dX5_methodTold_142 : decode cX5_methodTold 142 = .ok (.getfield 19, 3) := by decide +kernel
theorem dX5_methodTold_145 : decode cX5_methodTold 145 = .ok (.iload_n 1, 1) := by decide +kernel
theorem dX5_methodTold_146 : decode cX5_methodTold 146 = .ok (.iaload, 1) := by decide +kernel
theorem dX5_methodTold_147 : decode cX5_methodTold 147 = .ok (.iastore, 1) := by decide +kernel
theorem dX5_methodTold_148 : decode cX5_methodTold 148 = .ok (.dup, 1) := by decide +kernel
theorem dX5_methodTold_149 : decode cX5_methodTold 149 = .ok (.iconst 1, 1) := by decide +kernel
theorem dX5_methodTold_150 : decode cX5_methodTold 150 = .ok (.iload 5, 2) := by decide +kernel
theorem dX5_methodTold_152 : decode cX5_methodTold 152 = .ok (.iastore, 1) := by decide +kernel
theorem dX5_methodTold_153 : decode cX5_methodTold 153 = .ok (.dup, 1) := by decide +kernel
theorem dX5_methodTold_154 : decode cX5_methodTold 154 = .ok (.iconst 2, 1) := by decide +kernel
theorem dX5_methodTold_155 : decode cX5_methodTold 155 = .ok (.iload 6, 2) := by decide +kernel
theorem dX5_methodTold_157 : decode cX5_methodTold 157 = .ok (.iastore, 1) := by decide +kernel
theorem dX5_methodTold_158 : decode cX5_methodTold 158 = .ok (.dup, 1) := by decide +kernel
theorem dX5_methodTold_159 : decode cX5_methodTold 159 = .ok (.iconst 3, 1) := by decide +kernel
theorem dX5_methodTold_160 : decode cX5_methodTold 160 = .ok (.aload_n 0, 1) := by decide +kernel
theorem dX5_methodTold_161 : decode cX5_methodTold 161 = .ok (.invokevirtual 147, 3) := by decide +kernel
theorem dX5_methodTold_164 : decode cX5_methodTold 164 = .ok (.iastore, 1) := by decide +kernel
theorem dX5_methodTold_165 : decode cX5_methodTold 165 = .ok (.dup, 1) := by decide +kernel
theorem dX5_methodTold_166 : decode cX5_methodTold 166 = .ok (.iconst 4, 1) := by decide +kernel
theorem dX5_methodTold_167 : decode cX5_methodTold 167 = .ok (.iload 7, 2) := by decide +kernel
theorem dX5_methodTold_169 : decode cX5_methodTold 169 = .ok (.iastore, 1) := by decide +kernel
theorem dX5_methodTold_170 : decode cX5_methodTold 170 = .ok (.dup, 1) := by decide +kernel
theorem dX5_methodTold_171 : decode cX5_methodTold 171 = .ok (.iconst 5, 1) := by decide +kernel
theorem dX5_methodTold_172 : decode cX5_methodTold 172 = .ok (.iload_n 3, 1) := by decide +kernel
theorem dX5_methodTold_173 : decode cX5_methodTold 173 = .ok (.iastore, 1) := by decide +kernel
theorem dX5_methodTold_174 : decode cX5_methodTold 174 = .ok (.astore 8, 2) := by decide +kernel
theorem dX5_methodTold_176 : decode cX5_methodTold 176 = .ok (.aload 8, 2) := by decide +kernel
theorem dX5_methodTold_178 : decode cX5_methodTold 178 = .ok (.iload_n 2, 1) := by decide +kernel
theorem dX5_methodTold_179 : decode cX5_methodTold 179 = .ok (.iaload, 1) := by decide +kernel
theorem dX5_methodTold_180 : decode cX5_methodTold 180 = .ok (.ireturn, 1) := by decide +kernel
theorem dX5_about_0 : decode cX5_about 0 = .ok (.aload_n 0, 1) := by decide +kernel
theorem dX5_about_1 : decode cX5_about 1 = .ok (.iconst 0, 1) := by decide +kernel
theorem dX5_about_2 : decode cX5_about 2 = .ok (.putfield 52, 3) := by decide +kernel
theorem dX5_about_5 : decode cX5_about 5 = .ok (.aload_n 0, 1) := by decide +kernel
theorem dX5_about_6 : decode cX5_about 6 = .ok (.iload_n 1, 1) := by decide +kernel
theorem dX5_about_7 : decode cX5_about 7 = .ok (.invokevirtual 138, 3) := by decide +kernel
theorem dX5_about_10 : decode cX5_about 10 = .ok (.ifCond .eq 21, 3) := by decide +kernel
theorem dX5_about_13 : decode cX5_about 13 = .ok (.iload_n 2, 1) := by decide +kernel
theorem dX5_about_14 : decode cX5_about 14 = .ok (.iconst 0, 1) := by decide +kernel
theorem dX5_about_15 : decode cX5_about 15 = .ok (.iconst 5, 1) := by decide +kernel
theorem dX5_about_16 : decode cX5_about 16 = .ok (.invokestatic 59, 3) := by decide +kernel
theorem dX5_about_19 : decode cX5_about 19 = .ok (.ifCond .eq 12, 3) := by decide +kernel
theorem dX5_about_22 : decode cX5_about 22 = .ok (.aload_n 0, 1) := by decide +kernel
theorem dX5_about_23 : decode cX5_about 23 = .ok (.iload_n 1, 1) := by decide +kernel
theorem dX5_about_24 : decode cX5_about 24 = .ok (.iload_n 2, 1) := by decide +kernel
theorem dX5_about_25 : decode cX5_about 25 = .ok (.invokevirtual 150, 3) := by decide +kernel
theorem dX5_about_28 : decode cX5_about 28 = .ok (.goto 8, 3) := by decide +kernel
theorem dX5_about_31 : decode cX5_about 31 = .ok (.aload_n 0, 1) := by decide +kernel
theorem dX5_about_32 : decode cX5_about 32 = .ok (.iconst 1, 1) := by decide +kernel
theorem dX5_about_33 : decode cX5_about 33 = .ok (.invokevirtual 84, 3) := by decide +kernel
theorem dX5_about_36 : decode cX5_about 36 = .ok (.ireturn, 1) := by decide +kernel
theorem dX5_row_0 : decode cX5_row 0 = .ok (.aload_n 0, 1) := by decide +kernel
theorem dX5_row_1 : decode cX5_row 1 = .ok (.iconst 0, 1) := by decide +kernel
theorem dX5_row_2 : decode cX5_row 2 = .ok (.putfield 52, 3) := by decide +kernel
theorem dX5_row_5 : decode cX5_row 5 = .ok (.aload_n 0, 1) := by decide +kernel
theorem dX5_row_6 : decode cX5_row 6 = .ok (.iload_n 1, 1) := by decide +kernel
theorem dX5_row_7 : decode cX5_row 7 = .ok (.invokevirtual 138, 3) := by decide +kernel
theorem dX5_row_10 : decode cX5_row 10 = .ok (.ifCond .ne 9, 3) := by decide +kernel
theorem dX5_row_13 : decode cX5_row 13 = .ok (.aload_n 0, 1) := by decide +kernel
theorem dX5_row_14 : decode cX5_row 14 = .ok (.iconst 1, 1) := by decide +kernel
theorem dX5_row_15 : decode cX5_row 15 = .ok (.invokevirtual 84, 3) := by decide +kernel
theorem dX5_row_18 : decode cX5_row 18 = .ok (.ireturn, 1) := by decide +kernel
theorem dX5_row_19 : decode cX5_row 19 = .ok (.iload_n 2, 1) := by decide +kernel
theorem dX5_row_20 : decode cX5_row 20 = .ok (.iconst 0, 1) := by decide +kernel
theorem dX5_row_21 : decode cX5_row 21 = .ok (.sipush 200, 3) := by decide +kernel
theorem dX5_row_24 : decode cX5_row 24 = .ok (.invokestatic 59, 3) := by decide +kernel
theorem dX5_row_27 : decode cX5_row 27 = .ok (.ifCond .ne 9, 3) := by decide +kernel
theorem dX5_row_30 : decode cX5_row 30 = .ok (.aload_n 0, 1) := by decide +kernel
theorem dX5_row_31 : decode cX5_row 31 = .ok (.iconst 2, 1) := by decide +kernel
theorem dX5_row_32 : decode cX5_row 32 = .ok (.invokevirtual 84, 3) := by decide +kernel
theorem dX5_row_35 : decode cX5_row 35 = .ok (.ireturn, 1) := by decide +kernel
theorem dX5_row_36 : decode cX5_row 36 = .ok (.aload_n 0, 1) := by decide +kernel
theorem dX5_row_37 : decode cX5_row 37 = .ok (.getfield 19, 3) := by decide +kernel
theorem dX5_row_40 : decode cX5_row 40 = .ok (.iload_n 1, 1) := by decide +kernel
theorem dX5_row_41 : decode cX5_row 41 = .ok (.iaload, 1) := by decide +kernel
theorem dX5_row_42 : decode cX5_row 42 = .ok (.ifCond .ne 9, 3) := by decide +kernel
theorem dX5_row_45 : decode cX5_row 45 = .ok (.aload_n 0, 1) := by decide +kernel
theorem dX5_row_46 : decode cX5_row 46 = .ok (.iconst 3, 1) := by decide +kernel
theorem dX5_row_47 : decode cX5_row 47 = .ok (.invokevirtual 84, 3) := by decide +kernel
theorem dX5_row_50 : decode cX5_row 50 = .ok (.ireturn, 1) := by decide +kernel
theorem dX5_row_51 : decode cX5_row 51 = .ok (.aload_n 0, 1) := by decide +kernel
theorem dX5_row_52 : decode cX5_row 52 = .ok (.iload_n 1, 1) := by decide +kernel
theorem dX5_row_53 : decode cX5_row 53 = .ok (.iload_n 2, 1) := by decide +kernel
theorem dX5_row_54 : decode cX5_row 54 = .ok (.invokevirtual 73, 3) := by decide +kernel
theorem dX5_row_57 : decode cX5_row 57 = .ok (.aload_n 0, 1) := by decide +kernel
theorem dX5_row_58 : decode cX5_row 58 = .ok (.getfield 25, 3) := by decide +kernel
theorem dX5_row_61 : decode cX5_row 61 = .ok (.iload_n 2, 1) := by decide +kernel
theorem dX5_row_62 : decode cX5_row 62 = .ok (.iaload, 1) := by decide +kernel
theorem dX5_row_63 : decode cX5_row 63 = .ok (.ireturn, 1) := by decide +kernel
theorem dX5_dodges_0 : decode cX5_dodges 0 = .ok (.aload_n 0, 1) := by decide +kernel
theorem dX5_dodges_1 : decode cX5_dodges 1 = .ok (.iconst 0, 1) := by decide +kernel
theorem dX5_dodges_2 : decode cX5_dodges 2 = .ok (.putfield 52, 3) := by decide +kernel
theorem dX5_dodges_5 : decode cX5_dodges 5 = .ok (.aload_n 0, 1) := by decide +kernel
theorem dX5_dodges_6 : decode cX5_dodges 6 = .ok (.iload_n 1, 1) := by decide +kernel
theorem dX5_dodges_7 : decode cX5_dodges 7 = .ok (.invokevirtual 138, 3) := by decide +kernel
theorem dX5_dodges_10 : decode cX5_dodges 10 = .ok (.ifCond .eq 12, 3) := by decide +kernel
theorem dX5_dodges_13 : decode cX5_dodges 13 = .ok (.iload_n 2, 1) := by decide +kernel
theorem dX5_dodges_14 : decode cX5_dodges 14 = .ok (.iconst 0, 1) := by decide +kernel
theorem dX5_dodges_15 : decode cX5_dodges 15 = .ok (.iconst 5, 1) := by decide +kernel
theorem dX5_dodges_16 : decode cX5_dodges 16 = .ok (.invokestatic 59, 3) := by decide +kernel
theorem dX5_dodges_19 : decode cX5_dodges 19 = .ok (.ifCond .ne 9, 3) := by decide +kernel
theorem dX5_dodges_22 : decode cX5_dodges 22 = .ok (.aload_n 0, 1) := by decide +kernel
theorem dX5_dodges_23 : decode cX5_dodges 23 = .ok (.iconst 1, 1) := by decide +kernel
theorem dX5_dodges_24 : decode cX5_dodges 24 = .ok (.invokevirtual 84, 3) := by decide +kernel
theorem dX5_dodges_27 : decode cX5_dodges 27 = .ok (.ireturn, 1) := by decide +kernel
theorem dX5_dodges_28 : decode cX5_dodges 28 = .ok (.aload_n 0, 1) := by decide +kernel
theorem dX5_dodges_29 : decode cX5_dodges 29 = .ok (.iload_n 1, 1) := by decide +kernel
theorem dX5_dodges_30 : decode cX5_dodges 30 = .ok (.invokevirtual 141, 3) := by decide +kernel
theorem dX5_dodges_33 : decode cX5_dodges 33 = .ok (.pop, 1) := by decide +kernel
theorem dX5_dodges_34 : decode cX5_dodges 34 = .ok (.aload_n 0, 1) := by decide +kernel
theorem dX5_dodges_35 : decode cX5_dodges 35 = .ok (.iload_n 2, 1) := by decide +kernel
theorem dX5_dodges_36 : decode cX5_dodges 36 = .ok (.invokevirtual 144, 3) := by decide +kernel
theorem dX5_dodges_39 : decode cX5_dodges 39 = .ok (.ireturn, 1) := by decide +kernel
theorem dX5_ring_0 : decode cX5_ring 0 = .ok (.aload_n 0, 1) := by decide +kernel
theorem dX5_ring_1 : decode cX5_ring 1 = .ok (.iconst 0, 1) := by decide +kernel
theorem dX5_ring_2 : decode cX5_ring 2 = .ok (.putfield 52, 3) := by decide +kernel
theorem dX5_ring_5 : decode cX5_ring 5 = .ok (.iload_n 1, 1) := by decide +kernel
theorem dX5_ring_6 : decode cX5_ring 6 = .ok (.iconst 0, 1) := by decide +kernel
theorem dX5_ring_7 : decode cX5_ring 7 = .ok (.iconst 2, 1) := by decide +kernel
theorem dX5_ring_8 : decode cX5_ring 8 = .ok (.invokestatic 59, 3) := by decide +kernel
theorem dX5_ring_11 : decode cX5_ring 11 = .ok (.ifCond .eq 11, 3) := by decide +kernel
theorem dX5_ring_14 : decode cX5_ring 14 = .ok (.aload_n 0, 1) := by decide +kernel
theorem dX5_ring_15 : decode cX5_ring 15 = .ok (.iload_n 2, 1) := by decide +kernel
theorem dX5_ring_16 : decode cX5_ring 16 = .ok (.invokevirtual 138, 3) := by decide +kernel
theorem dX5_ring_19 : decode cX5_ring 19 = .ok (.ifCond .ne 9, 3) := by decide +kernel
theorem dX5_ring_22 : decode cX5_ring 22 = .ok (.aload_n 0, 1) := by decide +kernel
theorem dX5_ring_23 : decode cX5_ring 23 = .ok (.iconst 1, 1) := by decide +kernel
theorem dX5_ring_24 : decode cX5_ring 24 = .ok (.invokevirtual 84, 3) := by decide +kernel
theorem dX5_ring_27 : decode cX5_ring 27 = .ok (.ireturn, 1) := by decide +kernel
theorem dX5_ring_28 : decode cX5_ring 28 = .ok (.iload_n 3, 1) := by decide +kernel
theorem dX5_ring_29 : decode cX5_ring 29 = .ok (.iconst 1, 1) := by decide +kernel
theorem dX5_ring_30 : decode cX5_ring 30 = .ok (.bipush 12, 2) := by decide +kernel
theorem dX5_ring_32 : decode cX5_ring 32 = .ok (.invokestatic 59, 3) := by decide +kernel
theorem dX5_ring_35 : decode cX5_ring 35 = .ok (.ifCond .ne 9, 3) := by decide +kernel
theorem dX5_ring_38 : decode cX5_ring 38 = .ok (.aload_n 0, 1) := by decide +kernel
theorem dX5_ring_39 : decode cX5_ring 39 = .ok (.iconst 2, 1) := by decide +kernel
theorem dX5_ring_40 : decode cX5_ring 40 = .ok (.invokevirtual 84, 3) := by decide +kernel
theorem dX5_ring_43 : decode cX5_ring 43 = .ok (.ireturn, 1) := by decide +kernel
theorem dX5_ring_44 : decode cX5_ring 44 = .ok (.aload_n 0, 1) := by decide +kernel
theorem dX5_ring_45 : decode cX5_ring 45 = .ok (.getfield 45, 3) := by decide +kernel
theorem dX5_ring_48 : decode cX5_ring 48 = .ok (.iload_n 1, 1) := by decide +kernel
theorem dX5_ring_49 : decode cX5_ring 49 = .ok (.iload_n 2, 1) := by decide +kernel
theorem dX5_ring_50 : decode cX5_ring 50 = .ok (.invokevirtual 153, 3) := by decide +kernel
theorem dX5_ring_53 : decode cX5_ring 53 = .ok (.ifCond .ne 9, 3) := by decide +kernel
theorem dX5_ring_56 : decode cX5_ring 56 = .ok (.aload_n 0, 1) := by decide +kernel
theorem dX5_ring_57 : decode cX5_ring 57 = .ok (.iconst 3, 1) := by decide +kernel
theorem dX5_ring_58 : decode cX5_ring 58 = .ok (.invokevirtual 84, 3) := by decide +kernel
theorem dX5_ring_61 : decode cX5_ring 61 = .ok (.ireturn, 1) := by decide +kernel
theorem dX5_ring_62 : decode cX5_ring 62 = .ok (.aload_n 0, 1) := by decide +kernel
theorem dX5_ring_63 : decode cX5_ring 63 = .ok (.getfield 45, 3) := by decide +kernel
theorem dX5_ring_66 : decode cX5_ring 66 = .ok (.iload_n 1, 1) := by decide +kernel
theorem dX5_ring_67 : decode cX5_ring 67 = .ok (.iload_n 2, 1) := by decide +kernel
theorem dX5_ring_68 : decode cX5_ring 68 = .ok (.iload_n 3, 1) := by decide +kernel
theorem dX5_ring_69 : decode cX5_ring 69 = .ok (.invokevirtual 156, 3) := by decide +kernel
theorem dX5_ring_72 : decode cX5_ring 72 = .ok (.istore 4, 2) := by decide +kernel
theorem dX5_ring_74 : decode cX5_ring 74 = .ok (.aload_n 0, 1) := by decide +kernel
theorem dX5_ring_75 : decode cX5_ring 75 = .ok (.dup, 1) := by decide +kernel
theorem dX5_ring_76 : decode cX5_ring 76 = .ok (.getfield 159, 3) := by decide +kernel
theorem dX5_ring_79 : decode cX5_ring 79 = .ok (.iconst 1, 1) := by decide +kernel
theorem dX5_ring_80 : decode cX5_ring 80 = .ok (.iadd, 1) := by decide +kernel
theorem dX5_ring_81 : decode cX5_ring 81 = .ok (.putfield 159, 3) := by decide +kernel
theorem dX5_ring_84 : decode cX5_ring 84 = .ok (.aload_n 0, 1) := by decide +kernel
theorem dX5_ring_85 : decode cX5_ring 85 = .ok (.dup, 1) := by decide +kernel
theorem dX5_ring_86 : decode cX5_ring 86 = .ok (.getfield 162, 3) := by decide +kernel
theorem dX5_ring_89 : decode cX5_ring 89 = .ok (.iload 4, 2) := by decide +kernel
theorem dX5_ring_91 : decode cX5_ring 91 = .ok (.iadd, 1) := by decide +kernel
theorem dX5_ring_92 : decode cX5_ring 92 = .ok (.putfield 162, 3) := by decide +kernel
theorem dX5_ring_95 : decode cX5_ring 95 = .ok (.iload 4, 2) := by decide +kernel
theorem dX5_ring_97 : decode cX5_ring 97 = .ok (.ireturn, 1) := by decide +kernel
theorem dX5_wouldBring_0 : decode cX5_wouldBring 0 = .ok (.aload_n 0, 1) := by decide +kernel
theorem dX5_wouldBring_1 : decode cX5_wouldBring 1 = .ok (.getfield 45, 3) := by decide +kernel
theorem dX5_wouldBring_4 : decode cX5_wouldBring 4 = .ok (.iload_n 1, 1) := by decide +kernel
theorem dX5_wouldBring_5 : decode cX5_wouldBring 5 = .ok (.iload_n 2, 1) := by decide +kernel
theorem dX5_wouldBring_6 : decode cX5_wouldBring 6 = .ok (.invokevirtual 153, 3) := by decide +kernel
theorem dX5_wouldBring_9 : decode cX5_wouldBring 9 = .ok (.ifCond .ne 7, 3) := by decide +kernel
theorem dX5_wouldBring_12 : decode cX5_wouldBring 12 = .ok (.sipush (-1000), 3) := by decide +kernel
theorem dX5_wouldBring_15 : decode cX5_wouldBring 15 = .ok (.ireturn, 1) := by decide +kernel
theorem dX5_wouldBring_16 : decode cX5_wouldBring 16 = .ok (.aload_n 0, 1) := by decide +kernel
theorem dX5_wouldBring_17 : decode cX5_wouldBring 17 = .ok (.getfield 49, 3) := by decide +kernel
theorem dX5_wouldBring_20 : decode cX5_wouldBring 20 = .ok (.aload_n 0, 1) := by decide +kernel
theorem dX5_wouldBring_21 : decode cX5_wouldBring 21 = .ok (.getfield 45, 3) := by decide +kernel
theorem dX5_wouldBring_24 : decode cX5_wouldBring 24 = .ok (.invokevirtual 130, 3) := by decide +kernel
theorem dX5_wouldBring_27 : decode cX5_wouldBring 27 = .ok (.iload_n 1, 1) := by decide +kernel
theorem dX5_wouldBring_28 : decode cX5_wouldBring 28 = .ok (.iload_n 2, 1) := by decide +kernel
theorem dX5_wouldBring_29 : decode cX5_wouldBring 29 = .ok (.iload_n 3, 1) := by decide +kernel
theorem dX5_wouldBring_30 : decode cX5_wouldBring 30 = .ok (.invokevirtual 156, 3) := by decide +kernel
theorem dX5_wouldBring_33 : decode cX5_wouldBring 33 = .ok (.pop, 1) := by decide +kernel
theorem dX5_wouldBring_34 : decode cX5_wouldBring 34 = .ok (.aload_n 0, 1) := by decide +kernel
theorem dX5_wouldBring_35 : decode cX5_wouldBring 35 = .ok (.getfield 49, 3) := by decide +kernel
theorem dX5_wouldBring_38 : decode cX5_wouldBring 38 = .ok (.invokevirtual 165, 3) := by decide +kernel
theorem dX5_wouldBring_41 : decode cX5_wouldBring 41 = .ok (.aload_n 0, 1) := by decide +kernel
theorem dX5_wouldBring_42 : decode cX5_wouldBring 42 = .ok (.getfield 45, 3) := by decide +kernel
theorem dX5_wouldBring_45 : decode cX5_wouldBring 45 = .ok (.invokevirtual 165, 3) := by decide +kernel
theorem dX5_wouldBring_48 : decode cX5_wouldBring 48 = .ok (.isub, 1) := by decide +kernel
theorem dX5_wouldBring_49 : decode cX5_wouldBring 49 = .ok (.ireturn, 1) := by decide +kernel
theorem dX5_would_0 : decode cX5_would 0 = .ok (.aload_n 0, 1) := by decide +kernel
theorem dX5_would_1 : decode cX5_would 1 = .ok (.iconst 0, 1) := by decide +kernel
theorem dX5_would_2 : decode cX5_would 2 = .ok (.putfield 52, 3) := by decide +kernel
theorem dX5_would_5 : decode cX5_would 5 = .ok (.iload_n 1, 1) := by decide +kernel
theorem dX5_would_6 : decode cX5_would 6 = .ok (.iconst 0, 1) := by decide +kernel
theorem dX5_would_7 : decode cX5_would 7 = .ok (.iconst 2, 1) := by decide +kernel
theorem dX5_would_8 : decode cX5_would 8 = .ok (.invokestatic 59, 3) := by decide +kernel
theorem dX5_would_11 : decode cX5_would 11 = .ok (.ifCond .eq 11, 3) := by decide +kernel
theorem dX5_would_14 : decode cX5_would 14 = .ok (.aload_n 0, 1) := by decide +kernel
theorem dX5_would_15 : decode cX5_would 15 = .ok (.iload_n 2, 1) := by decide +kernel
theorem dX5_would_16 : decode cX5_would 16 = .ok (.invokevirtual 138, 3) := by decide +kernel
theorem dX5_would_19 : decode cX5_would 19 = .ok (.ifCond .ne 9, 3) := by decide +kernel
theorem dX5_would_22 : decode cX5_would 22 = .ok (.aload_n 0, 1) := by decide +kernel
theorem dX5_would_23 : decode cX5_would 23 = .ok (.iconst 1, 1) := by decide +kernel
theorem dX5_would_24 : decode cX5_would 24 = .ok (.invokevirtual 84, 3) := by decide +kernel
theorem dX5_would_27 : decode cX5_would 27 = .ok (.ireturn, 1) := by decide +kernel
theorem dX5_would_28 : decode cX5_would 28 = .ok (.iload_n 3, 1) := by decide +kernel
theorem dX5_would_29 : decode cX5_would 29 = .ok (.iconst 1, 1) := by decide +kernel
theorem dX5_would_30 : decode cX5_would 30 = .ok (.bipush 12, 2) := by decide +kernel
theorem dX5_would_32 : decode cX5_would 32 = .ok (.invokestatic 59, 3) := by decide +kernel
theorem dX5_would_35 : decode cX5_would 35 = .ok (.ifCond .eq 13, 3) := by decide +kernel
theorem dX5_would_38 : decode cX5_would 38 = .ok (.aload_n 0, 1) := by decide +kernel
theorem dX5_would_39 : decode cX5_would 39 = .ok (.iload_n 1, 1) := by decide +kernel
theorem dX5_would_40 : decode cX5_would 40 = .ok (.iload_n 2, 1) := by decide +kernel
theorem dX5_would_41 : decode cX5_would 41 = .ok (.iload_n 3, 1) := by decide +kernel
theorem dX5_would_42 : decode cX5_would 42 = .ok (.invokevirtual 168, 3) := by decide +kernel
theorem dX5_would_45 : decode cX5_would 45 = .ok (.goto 8, 3) := by decide +kernel
theorem dX5_would_48 : decode cX5_would 48 = .ok (.aload_n 0, 1) := by decide +kernel
theorem dX5_would_49 : decode cX5_would 49 = .ok (.iconst 2, 1) := by decide +kernel
theorem dX5_would_50 : decode cX5_would 50 = .ok (.invokevirtual 84, 3) := by decide +kernel
theorem dX5_would_53 : decode cX5_would 53 = .ok (.ireturn, 1) := by decide +kernel
theorem dX5_advise_0 : decode cX5_advise 0 = .ok (.aload_n 0, 1) := by decide +kernel
theorem dX5_advise_1 : decode cX5_advise 1 = .ok (.iconst 0, 1) := by decide +kernel
theorem dX5_advise_2 : decode cX5_advise 2 = .ok (.putfield 52, 3) := by decide +kernel
theorem dX5_advise_5 : decode cX5_advise 5 = .ok (.iload_n 1, 1) := by decide +kernel
theorem dX5_advise_6 : decode cX5_advise 6 = .ok (.iconst 0, 1) := by decide +kernel
theorem dX5_advise_7 : decode cX5_advise 7 = .ok (.iconst 2, 1) := by decide +kernel
theorem dX5_advise_8 : decode cX5_advise 8 = .ok (.invokestatic 59, 3) := by decide +kernel
theorem dX5_advise_11 : decode cX5_advise 11 = .ok (.ifCond .ne 9, 3) := by decide +kernel
theorem dX5_advise_14 : decode cX5_advise 14 = .ok (.aload_n 0, 1) := by decide +kernel
theorem dX5_advise_15 : decode cX5_advise 15 = .ok (.iconst 1, 1) := by decide +kernel
theorem dX5_advise_16 : decode cX5_advise 16 = .ok (.invokevirtual 84, 3) := by decide +kernel
theorem dX5_advise_19 : decode cX5_advise 19 = .ok (.ireturn, 1) := by decide +kernel
theorem dX5_advise_20 : decode cX5_advise 20 = .ok (.iconst (-1), 1) := by decide +kernel
theorem dX5_advise_21 : decode cX5_advise 21 = .ok (.istore_n 2, 1) := by decide +kernel
theorem dX5_advise_22 : decode cX5_advise 22 = .ok (.iconst 0, 1) := by decide +kernel
theorem dX5_advise_23 : decode cX5_advise 23 = .ok (.istore_n 3, 1) := by decide +kernel
theorem dX5_advise_24 : decode cX5_advise 24 = .ok (.iconst 0, 1) := by decide +kernel
theorem dX5_advise_25 : decode cX5_advise 25 = .ok (.istore 4, 2) := by decide +kernel
theorem dX5_advise_27 : decode cX5_advise 27 = .ok (.iload 4, 2) := by decide +kernel
theorem dX5_advise_29 : decode cX5_advise 29 = .ok (.aload_n 0, 1) := by decide +kernel
theorem dX5_advise_30 : decode cX5_advise 30 = .ok (.getfield 63, 3) := by decide +kernel
theorem dX5_advise_33 : decode cX5_advise 33 = .ok (.if_icmp .ge 39, 3) := by decide +kernel
theorem dX5_advise_36 : decode cX5_advise 36 = .ok (.aload_n 0, 1) := by decide +kernel
theorem dX5_advise_37 : decode cX5_advise 37 = .ok (.iload_n 1, 1) := by decide +kernel
theorem dX5_advise_38 : decode cX5_advise 38 = .ok (.iload 4, 2) := by decide +kernel
theorem dX5_advise_40 : decode cX5_advise 40 = .ok (.aload_n 0, 1) := by decide +kernel
theorem dX5_advise_41 : decode cX5_advise 41 = .ok (.iload 4, 2) := by decide +kernel
theorem dX5_advise_43 : decode cX5_advise 43 = .ok (.invokevirtual 141, 3) := by decide +kernel
theorem dX5_advise_46 : decode cX5_advise 46 = .ok (.invokevirtual 168, 3) := by decide +kernel
theorem dX5_advise_49 : decode cX5_advise 49 = .ok (.istore 5, 2) := by decide +kernel
theorem dX5_advise_51 : decode cX5_advise 51 = .ok (.iload 5, 2) := by decide +kernel
theorem dX5_advise_53 : decode cX5_advise 53 = .ok (.iload_n 3, 1) := by decide +kernel
theorem dX5_advise_54 : decode cX5_advise 54 = .ok (.if_icmp .gt 6, 3) := by decide +kernel
theorem dX5_advise_57 : decode cX5_advise 57 = .ok (.goto 9, 3) := by decide +kernel
theorem dX5_advise_60 : decode cX5_advise 60 = .ok (.iload 5, 2) := by decide +kernel
theorem dX5_advise_62 : decode cX5_advise 62 = .ok (.istore_n 3, 1) := by decide +kernel
theorem dX5_advise_63 : decode cX5_advise 63 = .ok (.iload 4, 2) := by decide +kernel
theorem dX5_advise_65 : decode cX5_advise 65 = .ok (.istore_n 2, 1) := by decide +kernel
theorem dX5_advise_66 : decode cX5_advise 66 = .ok (.iinc 4 1, 3) := by decide +kernel
theorem dX5_advise_69 : decode cX5_advise 69 = .ok (.goto (-42), 3) := by decide +kernel
theorem dX5_advise_72 : decode cX5_advise 72 = .ok (.iload_n 2, 1) := by decide +kernel
theorem dX5_advise_73 : decode cX5_advise 73 = .ok (.ireturn, 1) := by decide +kernel
theorem dX5_counted_0 : decode cX5_counted 0 = .ok (.iconst 0, 1) := by decide +kernel
theorem dX5_counted_1 : decode cX5_counted 1 = .ok (.istore_n 2, 1) := by decide +kernel
theorem dX5_counted_2 : decode cX5_counted 2 = .ok (.iconst 0, 1) := by decide +kernel
theorem dX5_counted_3 : decode cX5_counted 3 = .ok (.istore_n 3, 1) := by decide +kernel
theorem dX5_counted_4 : decode cX5_counted 4 = .ok (.iconst 0, 1) := by decide +kernel
theorem dX5_counted_5 : decode cX5_counted 5 = .ok (.istore 4, 2) := by decide +kernel
theorem dX5_counted_7 : decode cX5_counted 7 = .ok (.iconst 0, 1) := by decide +kernel
theorem dX5_counted_8 : decode cX5_counted 8 = .ok (.istore 5, 2) := by decide +kernel
theorem dX5_counted_10 : decode cX5_counted 10 = .ok (.iload 5, 2) := by decide +kernel
theorem dX5_counted_12 : decode cX5_counted 12 = .ok (.aload_n 0, 1) := by decide +kernel
theorem dX5_counted_13 : decode cX5_counted 13 = .ok (.getfield 56, 3) := by decide +kernel
theorem dX5_counted_16 : decode cX5_counted 16 = .ok (.if_icmp .ge 45, 3) := by decide +kernel
theorem dX5_counted_19 : decode cX5_counted 19 = .ok (.iload_n 2, 1) := by decide +kernel
theorem dX5_counted_20 : decode cX5_counted 20 = .ok (.aload_n 0, 1) := by decide +kernel
theorem dX5_counted_21 : decode cX5_counted 21 = .ok (.getfield 45, 3) := by decide +kernel
theorem dX5_counted_24 : decode cX5_counted 24 = .ok (.getfield 91, 3) := by decide +kernel
theorem dX5_counted_27 : decode cX5_counted 27 = .ok (.iload 5, 2) := by decide +kernel
theorem dX5_counted_29 : decode cX5_counted 29 = .ok (.iaload, 1) := by decide +kernel
theorem dX5_counted_30 : decode cX5_counted 30 = .ok (.ifCond .lt 7, 3) := by decide +kernel
theorem dX5_counted_33 : decode cX5_counted 33 = .ok (.iconst 1, 1) := by decide +kernel
theorem dX5_counted_34 : decode cX5_counted 34 = .ok (.goto 4, 3) := by decide +kernel
theorem dX5_counted_37 : decode cX5_counted 37 = .ok (.iconst 0, 1) := by decide +kernel
theorem dX5_counted_38 : decode cX5_counted 38 = .ok (.iadd, 1) := by decide +kernel
theorem dX5_counted_39 : decode cX5_counted 39 = .ok (.istore_n 2, 1) := by decide +kernel
theorem dX5_counted_40 : decode cX5_counted 40 = .ok (.iload 4, 2) := by decide +kernel
theorem dX5_counted_42 : decode cX5_counted 42 = .ok (.aload_n 0, 1) := by decide +kernel
theorem dX5_counted_43 : decode cX5_counted 43 = .ok (.getfield 45, 3) := by decide +kernel
theorem dX5_counted_46 : decode cX5_counted 46 = .ok (.getfield 123, 3) := by decide +kernel
theorem dX5_counted_49 : decode cX5_counted 49 = .ok (.iload 5, 2) := by decide +kernel
theorem dX5_counted_51 : decode cX5_counted 51 = .ok (.iaload, 1) := by decide +kernel
theorem dX5_counted_52 : decode cX5_counted 52 = .ok (.iadd, 1) := by decide +kernel
theorem dX5_counted_53 : decode cX5_counted 53 = .ok (.istore 4, 2) := by decide +kernel
theorem dX5_counted_55 : decode cX5_counted 55 = .ok (.iinc 5 1, 3) := by decide +kernel
theorem dX5_counted_58 : decode cX5_counted 58 = .ok (.goto (-48), 3) := by decide +kernel
theorem dX5_counted_61 : decode cX5_counted 61 = .ok (.iconst 0, 1) := by decide +kernel
theorem dX5_counted_62 : decode cX5_counted 62 = .ok (.istore 5, 2) := by decide +kernel
theorem dX5_counted_64 : decode cX5_counted 64 = .ok (.iload 5, 2) := by decide +kernel
theorem dX5_counted_66 : decode cX5_counted 66 = .ok (.iconst 3, 1) := by decide +kernel
theorem dX5_counted_67 : decode cX5_counted 67 = .ok (.if_icmp .ge 31, 3) := by decide +kernel
theorem dX5_counted_70 : decode cX5_counted 70 = .ok (.iload_n 3, 1) := by decide +kernel
theorem dX5_counted_71 : decode cX5_counted 71 = .ok (.aload_n 0, 1) := by decide +kernel
theorem dX5_counted_72 : decode cX5_counted 72 = .ok (.getfield 45, 3) := by decide +kernel
theorem dX5_counted_75 : decode cX5_counted 75 = .ok (.iload 5, 2) := by decide +kernel
theorem dX5_counted_77 : decode cX5_counted 77 = .ok (.invokevirtual 114, 3) := by decide +kernel
theorem dX5_counted_80 : decode cX5_counted 80 = .ok (.bipush 6, 2) := by decide +kernel
theorem dX5_counted_82 : decode cX5_counted 82 = .ok (.if_icmp .ne 7, 3) := by decide +kernel
theorem dX5_counted_85 : decode cX5_counted 85 = .ok (.iconst 1, 1) := by decide +kernel
theorem dX5_counted_86 : decode cX5_counted 86 = .ok (.goto 4, 3) := by decide +kernel
theorem dX5_counted_89 : decode cX5_counted 89 = .ok (.iconst 0, 1) := by decide +kernel
theorem dX5_counted_90 : decode cX5_counted 90 = .ok (.iadd, 1) := by decide +kernel
theorem dX5_counted_91 : decode cX5_counted 91 = .ok (.istore_n 3, 1) := by decide +kernel
theorem dX5_counted_92 : decode cX5_counted 92 = .ok (.iinc 5 1, 3) := by decide +kernel
theorem dX5_counted_95 : decode cX5_counted 95 = .ok (.goto (-31), 3) := by decide +kernel
theorem dX5_counted_98 : decode cX5_counted 98 = .ok (.bipush 9, 2) := by decide +kernel
theorem dX5_counted_100 : decode cX5_counted 100 = .ok (.newarray .int, 2) := by decide +kernel
theorem dX5_counted_102 : decode cX5_counted 102 = .ok (.dup, 1) := by decide +kernel
theorem dX5_counted_103 : decode cX5_counted 103 = .ok (.iconst 0, 1) := by decide +kernel
theorem dX5_counted_104 : decode cX5_counted 104 = .ok (.aload_n 0, 1) := by decide +kernel
theorem dX5_counted_105 : decode cX5_counted 105 = .ok (.getfield 45, 3) := by decide +kernel
theorem dX5_counted_108 : decode cX5_counted 108 = .ok (.getfield 171, 3) := by decide +kernel
theorem dX5_counted_111 : decode cX5_counted 111 = .ok (.iastore, 1) := by decide +kernel
theorem dX5_counted_112 : decode cX5_counted 112 = .ok (.dup, 1) := by decide +kernel
theorem dX5_counted_113 : decode cX5_counted 113 = .ok (.iconst 1, 1) := by decide +kernel
theorem dX5_counted_114 : decode cX5_counted 114 = .ok (.aload_n 0, 1) := by decide +kernel
theorem dX5_counted_115 : decode cX5_counted 115 = .ok (.getfield 56, 3) := by decide +kernel
theorem dX5_counted_118 : decode cX5_counted 118 = .ok (.iastore, 1) := by decide +kernel
theorem dX5_counted_119 : decode cX5_counted 119 = .ok (.dup, 1) := by decide +kernel
theorem dX5_counted_120 : decode cX5_counted 120 = .ok (.iconst 2, 1) := by decide +kernel
theorem dX5_counted_121 : decode cX5_counted 121 = .ok (.iload_n 2, 1) := by decide +kernel
theorem dX5_counted_122 : decode cX5_counted 122 = .ok (.iastore, 1) := by decide +kernel
theorem dX5_counted_123 : decode cX5_counted 123 = .ok (.dup, 1) := by decide +kernel
theorem dX5_counted_124 : decode cX5_counted 124 = .ok (.iconst 3, 1) := by decide +kernel
theorem dX5_counted_125 : decode cX5_counted 125 = .ok (.aload_n 0, 1) := by decide +kernel
theorem dX5_counted_126 : decode cX5_counted 126 = .ok (.getfield 63, 3) := by decide +kernel
theorem dX5_counted_129 : decode cX5_counted 129 = .ok (.iastore, 1) := by decide +kernel
theorem dX5_counted_130 : decode cX5_counted 130 = .ok (.dup, 1) := by decide +kernel
theorem dX5_counted_131 : decode cX5_counted 131 = .ok (.iconst 4, 1) := by decide +kernel
theorem dX5_counted_132 : decode cX5_counted 132 = .ok (.iload_n 3, 1) := by decide +kernel
theorem dX5_counted_133 : decode cX5_counted 133 = .ok (.iastore, 1) := by decide +kernel
theorem dX5_counted_134 : decode cX5_counted 134 = .ok (.dup, 1) := by decide +kernel
theorem dX5_counted_135 : decode cX5_counted 135 = .ok (.iconst 5, 1) := by decide +kernel
theorem dX5_counted_136 : decode cX5_counted 136 = .ok (.aload_n 0, 1) := by decide +kernel
theorem dX5_counted_137 : decode cX5_counted 137 = .ok (.getfield 159, 3) := by decide +kernel
theorem dX5_counted_140 : decode cX5_counted 140 = .ok (.iastore, 1) := by decide +kernel
theorem dX5_counted_141 : decode cX5_counted 141 = .ok (.dup, 1) := by decide +kernel
theorem dX5_counted_142 : decode cX5_counted 142 = .ok (.bipush 6, 2) := by decide +kernel
theorem dX5_counted_144 : decode cX5_counted 144 = .ok (.aload_n 0, 1) := by decide +kernel
theorem dX5_counted_145 : decode cX5_counted 145 = .ok (.getfield 162, 3) := by decide +kernel
theorem dX5_counted_148 : decode cX5_counted 148 = .ok (.iastore, 1) := by decide +kernel
theorem dX5_counted_149 : decode cX5_counted 149 = .ok (.dup, 1) := by decide +kernel
theorem dX5_counted_150 : decode cX5_counted 150 = .ok (.bipush 7, 2) := by decide +kernel
theorem dX5_counted_152 : decode cX5_counted 152 = .ok (.iload 4, 2) := by decide +kernel
theorem dX5_counted_154 : decode cX5_counted 154 = .ok (.iastore, 1) := by decide +kernel
theorem dX5_counted_155 : decode cX5_counted 155 = .ok (.dup, 1) := by decide +kernel
theorem dX5_counted_156 : decode cX5_counted 156 = .ok (.bipush 8, 2) := by decide +kernel
theorem dX5_counted_158 : decode cX5_counted 158 = .ok (.aload_n 0, 1) := by decide +kernel
theorem dX5_counted_159 : decode cX5_counted 159 = .ok (.getfield 45, 3) := by decide +kernel
theorem dX5_counted_162 : decode cX5_counted 162 = .ok (.invokevirtual 165, 3) := by decide +kernel
theorem dX5_counted_165 : decode cX5_counted 165 = .ok (.iastore, 1) := by decide +kernel
theorem dX5_counted_166 : decode cX5_counted 166 = .ok (.astore 5, 2) := by decide +kernel
theorem dX5_counted_168 : decode cX5_counted 168 = .ok (.aload 5, 2) := by decide +kernel
theorem dX5_counted_170 : decode cX5_counted 170 = .ok (.iload_n 1, 1) := by decide +kernel
theorem dX5_counted_171 : decode cX5_counted 171 = .ok (.iaload, 1) := by decide +kernel
theorem dX5_counted_172 : decode cX5_counted 172 = .ok (.ireturn, 1) := by decide +kernel
theorem dX5_count_0 : decode cX5_count 0 = .ok (.aload_n 0, 1) := by decide +kernel
theorem dX5_count_1 : decode cX5_count 1 = .ok (.iconst 0, 1) := by decide +kernel
theorem dX5_count_2 : decode cX5_count 2 = .ok (.putfield 52, 3) := by decide +kernel
theorem dX5_count_5 : decode cX5_count 5 = .ok (.iload_n 1, 1) := by decide +kernel
theorem dX5_count_6 : decode cX5_count 6 = .ok (.iconst 0, 1) := by decide +kernel
theorem dX5_count_7 : decode cX5_count 7 = .ok (.bipush 8, 2) := by decide +kernel
theorem dX5_count_9 : decode cX5_count 9 = .ok (.invokestatic 59, 3) := by decide +kernel
theorem dX5_count_12 : decode cX5_count 12 = .ok (.ifCond .eq 11, 3) := by decide +kernel
theorem dX5_count_15 : decode cX5_count 15 = .ok (.aload_n 0, 1) := by decide +kernel
theorem dX5_count_16 : decode cX5_count 16 = .ok (.iload_n 1, 1) := by decide +kernel
theorem dX5_count_17 : decode cX5_count 17 = .ok (.invokevirtual 174, 3) := by decide +kernel
theorem dX5_count_20 : decode cX5_count 20 = .ok (.goto 8, 3) := by decide +kernel
theorem dX5_count_23 : decode cX5_count 23 = .ok (.aload_n 0, 1) := by decide +kernel
theorem dX5_count_24 : decode cX5_count 24 = .ok (.iconst 1, 1) := by decide +kernel
theorem dX5_count_25 : decode cX5_count 25 = .ok (.invokevirtual 84, 3) := by decide +kernel
theorem dX5_count_28 : decode cX5_count 28 = .ok (.ireturn, 1) := by decide +kernel
theorem dX5_pass_0 : decode cX5_pass 0 = .ok (.aload_n 0, 1) := by decide +kernel
theorem dX5_pass_1 : decode cX5_pass 1 = .ok (.iconst 0, 1) := by decide +kernel
theorem dX5_pass_2 : decode cX5_pass 2 = .ok (.putfield 52, 3) := by decide +kernel
theorem dX5_pass_5 : decode cX5_pass 5 = .ok (.iload_n 1, 1) := by decide +kernel
theorem dX5_pass_6 : decode cX5_pass 6 = .ok (.iconst 1, 1) := by decide +kernel
theorem dX5_pass_7 : decode cX5_pass 7 = .ok (.bipush 60, 2) := by decide +kernel
theorem dX5_pass_9 : decode cX5_pass 9 = .ok (.invokestatic 59, 3) := by decide +kernel
theorem dX5_pass_12 : decode cX5_pass 12 = .ok (.ifCond .ne 9, 3) := by decide +kernel
theorem dX5_pass_15 : decode cX5_pass 15 = .ok (.aload_n 0, 1) := by decide +kernel
theorem dX5_pass_16 : decode cX5_pass 16 = .ok (.iconst 1, 1) := by decide +kernel
theorem dX5_pass_17 : decode cX5_pass 17 = .ok (.invokevirtual 84, 3) := by decide +kernel
theorem dX5_pass_20 : decode cX5_pass 20 = .ok (.ireturn, 1) := by decide +kernel
theorem dX5_pass_21 : decode cX5_pass 21 = .ok (.aload_n 0, 1) := by decide +kernel
theorem dX5_pass_22 : decode cX5_pass 22 = .ok (.getfield 45, 3) := by decide +kernel
theorem dX5_pass_25 : decode cX5_pass 25 = .ok (.getfield 91, 3) := by decide +kernel
theorem dX5_pass_28 : decode cX5_pass 28 = .ok (.invokevirtual 177, 3) := by decide +kernel
theorem dX5_pass_31 : decode cX5_pass 31 = .ok (.checkcast 178, 3) := by decide +kernel
theorem dX5_pass_34 : decode cX5_pass 34 = .ok (.astore_n 2, 1) := by decide +kernel
theorem dX5_pass_35 : decode cX5_pass 35 = .ok (.aload_n 0, 1) := by decide +kernel
theorem dX5_pass_36 : decode cX5_pass 36 = .ok (.getfield 45, 3) := by decide +kernel
theorem dX5_pass_39 : decode cX5_pass 39 = .ok (.iload_n 1, 1) := by decide +kernel
theorem dX5_pass_40 : decode cX5_pass 40 = .ok (.invokevirtual 182, 3) := by decide +kernel
theorem dX5_pass_43 : decode cX5_pass 43 = .ok (.iconst 0, 1) := by decide +kernel
theorem dX5_pass_44 : decode cX5_pass 44 = .ok (.istore_n 3, 1) := by decide +kernel
theorem dX5_pass_45 : decode cX5_pass 45 = .ok (.iconst 0, 1) := by decide +kernel
theorem dX5_pass_46 : decode cX5_pass 46 = .ok (.istore 4, 2) := by decide +kernel
theorem dX5_pass_48 : decode cX5_pass 48 = .ok (.iload 4, 2) := by decide +kernel
theorem dX5_pass_50 : decode cX5_pass 50 = .ok (.aload_n 0, 1) := by decide +kernel
theorem dX5_pass_51 : decode cX5_pass 51 = .ok (.getfield 56, 3) := by decide +kernel
theorem dX5_pass_54 : decode cX5_pass 54 = .ok (.if_icmp .ge 34, 3) := by decide +kernel
theorem dX5_pass_57 : decode cX5_pass 57 = .ok (.iload_n 3, 1) := by decide +kernel
theorem dX5_pass_58 : decode cX5_pass 58 = .ok (.aload_n 0, 1) := by decide +kernel
theorem dX5_pass_59 : decode cX5_pass 59 = .ok (.getfield 45, 3) := by decide +kernel
theorem dX5_pass_62 : decode cX5_pass 62 = .ok (.getfield 91, 3) := by decide +kernel
theorem dX5_pass_65 : decode cX5_pass 65 = .ok (.iload 4, 2) := by decide +kernel
theorem dX5_pass_67 : decode cX5_pass 67 = .ok (.iaload, 1) := by decide +kernel
theorem dX5_pass_68 : decode cX5_pass 68 = .ok (.aload_n 2, 1) := by decide +kernel
theorem dX5_pass_69 : decode cX5_pass 69 = .ok (.iload 4, 2) := by decide +kernel
theorem dX5_pass_71 : decode cX5_pass 71 = .ok (.iaload, 1) := by decide +kernel
theorem dX5_pass_72 : decode cX5_pass 72 = .ok (.if_icmp .eq 7, 3) := by decide +kernel
theorem dX5_pass_75 : decode cX5_pass 75 = .ok (.iconst 1, 1) := by decide +kernel
theorem dX5_pass_76 : decode cX5_pass 76 = .ok (.goto 4, 3) := by decide +kernel
theorem dX5_pass_79 : decode cX5_pass 79 = .ok (.iconst 0, 1) := by decide +kernel
theorem dX5_pass_80 : decode cX5_pass 80 = .ok (.iadd, 1) := by decide +kernel
theorem dX5_pass_81 : decode cX5_pass 81 = .ok (.istore_n 3, 1) := by decide +kernel
theorem dX5_pass_82 : decode cX5_pass 82 = .ok (.iinc 4 1, 3) := by decide +kernel
theorem dX5_pass_85 : decode cX5_pass 85 = .ok (.goto (-37), 3) := by decide +kernel
theorem dX5_pass_88 : decode cX5_pass 88 = .ok (.iload_n 3, 1) := by decide +kernel
theorem dX5_pass_89 : decode cX5_pass 89 = .ok (.ireturn, 1) := by decide +kernel
theorem dX5_foresee_0 : decode cX5_foresee 0 = .ok (.aload_n 0, 1) := by decide +kernel
theorem dX5_foresee_1 : decode cX5_foresee 1 = .ok (.iconst 0, 1) := by decide +kernel
theorem dX5_foresee_2 : decode cX5_foresee 2 = .ok (.putfield 52, 3) := by decide +kernel
theorem dX5_foresee_5 : decode cX5_foresee 5 = .ok (.aload_n 0, 1) := by decide +kernel
theorem dX5_foresee_6 : decode cX5_foresee 6 = .ok (.iload_n 1, 1) := by decide +kernel
theorem dX5_foresee_7 : decode cX5_foresee 7 = .ok (.invokevirtual 94, 3) := by decide +kernel
theorem dX5_foresee_10 : decode cX5_foresee 10 = .ok (.ifCond .ne 9, 3) := by decide +kernel
theorem dX5_foresee_13 : decode cX5_foresee 13 = .ok (.aload_n 0, 1) := by decide +kernel
theorem dX5_foresee_14 : decode cX5_foresee 14 = .ok (.iconst 1, 1) := by decide +kernel
theorem dX5_foresee_15 : decode cX5_foresee 15 = .ok (.invokevirtual 84, 3) := by decide +kernel
theorem dX5_foresee_18 : decode cX5_foresee 18 = .ok (.ireturn, 1) := by decide +kernel
theorem dX5_foresee_19 : decode cX5_foresee 19 = .ok (.iload_n 2, 1) := by decide +kernel
theorem dX5_foresee_20 : decode cX5_foresee 20 = .ok (.iconst 1, 1) := by decide +kernel
theorem dX5_foresee_21 : decode cX5_foresee 21 = .ok (.bipush 60, 2) := by decide +kernel
theorem dX5_foresee_23 : decode cX5_foresee 23 = .ok (.invokestatic 59, 3) := by decide +kernel
theorem dX5_foresee_26 : decode cX5_foresee 26 = .ok (.ifCond .eq 12, 3) := by decide +kernel
theorem dX5_foresee_29 : decode cX5_foresee 29 = .ok (.iload_n 3, 1) := by decide +kernel
theorem dX5_foresee_30 : decode cX5_foresee 30 = .ok (.iconst 3, 1) := by decide +kernel
theorem dX5_foresee_31 : decode cX5_foresee 31 = .ok (.iconst 5, 1) := by decide +kernel
theorem dX5_foresee_32 : decode cX5_foresee 32 = .ok (.invokestatic 59, 3) := by decide +kernel
theorem dX5_foresee_35 : decode cX5_foresee 35 = .ok (.ifCond .ne 9, 3) := by decide +kernel
theorem dX5_foresee_38 : decode cX5_foresee 38 = .ok (.aload_n 0, 1) := by decide +kernel
theorem dX5_foresee_39 : decode cX5_foresee 39 = .ok (.iconst 2, 1) := by decide +kernel
theorem dX5_foresee_40 : decode cX5_foresee 40 = .ok (.invokevirtual 84, 3) := by decide +kernel
theorem dX5_foresee_43 : decode cX5_foresee 43 = .ok (.ireturn, 1) := by decide +kernel
theorem dX5_foresee_44 : decode cX5_foresee 44 = .ok (.aload_n 0, 1) := by decide +kernel
theorem dX5_foresee_45 : decode cX5_foresee 45 = .ok (.getfield 49, 3) := by decide +kernel
theorem dX5_foresee_48 : decode cX5_foresee 48 = .ok (.aload_n 0, 1) := by decide +kernel
theorem dX5_foresee_49 : decode cX5_foresee 49 = .ok (.getfield 45, 3) := by decide +kernel
theorem dX5_foresee_52 : decode cX5_foresee 52 = .ok (.invokevirtual 130, 3) := by decide +kernel
theorem dX5_foresee_55 : decode cX5_foresee 55 = .ok (.iload_n 2, 1) := by decide +kernel
theorem dX5_foresee_56 : decode cX5_foresee 56 = .ok (.invokevirtual 182, 3) := by decide +kernel
theorem dX5_foresee_59 : decode cX5_foresee 59 = .ok (.aload_n 0, 1) := by decide +kernel
theorem dX5_foresee_60 : decode cX5_foresee 60 = .ok (.aload_n 0, 1) := by decide +kernel
theorem dX5_foresee_61 : decode cX5_foresee 61 = .ok (.getfield 49, 3) := by decide +kernel
theorem dX5_foresee_64 : decode cX5_foresee 64 = .ok (.iload_n 1, 1) := by decide +kernel
theorem dX5_foresee_65 : decode cX5_foresee 65 = .ok (.iload_n 3, 1) := by decide +kernel
theorem dX5_foresee_66 : decode cX5_foresee 66 = .ok (.invokevirtual 126, 3) := by decide +kernel
theorem dX5_foresee_69 : decode cX5_foresee 69 = .ok (.ireturn, 1) := by decide +kernel
theorem dX5_mean_0 : decode cX5_mean 0 = .ok (.aload_n 0, 1) := by decide +kernel
theorem dX5_mean_1 : decode cX5_mean 1 = .ok (.iconst 0, 1) := by decide +kernel
theorem dX5_mean_2 : decode cX5_mean 2 = .ok (.putfield 52, 3) := by decide +kernel
theorem dX5_mean_5 : decode cX5_mean 5 = .ok (.iconst 0, 1) := by decide +kernel
theorem dX5_mean_6 : decode cX5_mean 6 = .ok (.istore_n 1, 1) := by decide +kernel
theorem dX5_mean_7 : decode cX5_mean 7 = .ok (.iconst 0, 1) := by decide +kernel
theorem dX5_mean_8 : decode cX5_mean 8 = .ok (.istore_n 2, 1) := by decide +kernel
theorem dX5_mean_9 : decode cX5_mean 9 = .ok (.iconst 0, 1) := by decide +kernel
theorem dX5_mean_10 : decode cX5_mean 10 = .ok (.istore_n 3, 1) := by decide +kernel
theorem dX5_mean_11 : decode cX5_mean 11 = .ok (.iload_n 3, 1) := by decide +kernel
theorem dX5_mean_12 : decode cX5_mean 12 = .ok (.aload_n 0, 1) := by decide +kernel
theorem dX5_mean_13 : decode cX5_mean 13 = .ok (.getfield 56, 3) := by decide +kernel
theorem dX5_mean_16 : decode cX5_mean 16 = .ok (.if_icmp .ge 36, 3) := by decide +kernel
theorem dX5_mean_19 : decode cX5_mean 19 = .ok (.aload_n 0, 1) := by decide +kernel
theorem dX5_mean_20 : decode cX5_mean 20 = .ok (.getfield 45, 3) := by decide +kernel
theorem dX5_mean_23 : decode cX5_mean 23 = .ok (.getfield 91, 3) := by decide +kernel
theorem dX5_mean_26 : decode cX5_mean 26 = .ok (.iload_n 3, 1) := by decide +kernel
theorem dX5_mean_27 : decode cX5_mean 27 = .ok (.iaload, 1) := by decide +kernel
theorem dX5_mean_28 : decode cX5_mean 28 = .ok (.ifCond .ge 6, 3) := by decide +kernel
theorem dX5_mean_31 : decode cX5_mean 31 = .ok (.goto 15, 3) := by decide +kernel
theorem dX5_mean_34 : decode cX5_mean 34 = .ok (.iinc 1 1, 3) := by decide +kernel
theorem dX5_mean_37 : decode cX5_mean 37 = .ok (.iload_n 2, 1) := by decide +kernel
theorem dX5_mean_38 : decode cX5_mean 38 = .ok (.aload_n 0, 1) := by decide +kernel
theorem dX5_mean_39 : decode cX5_mean 39 = .ok (.getfield 13, 3) := by decide +kernel
theorem dX5_mean_42 : decode cX5_mean 42 = .ok (.iload_n 3, 1) := by decide +kernel
theorem dX5_mean_43 : decode cX5_mean 43 = .ok (.iaload, 1) := by decide +kernel
theorem dX5_mean_44 : decode cX5_mean 44 = .ok (.iadd, 1) := by decide +kernel
theorem dX5_mean_45 : decode cX5_mean 45 = .ok (.istore_n 2, 1) := by decide +kernel
theorem dX5_mean_46 : decode cX5_mean 46 = .ok (.iinc 3 1, 3) := by decide +kernel
theorem dX5_mean_49 : decode cX5_mean 49 = .ok (.goto (-38), 3) := by decide +kernel
theorem dX5_mean_52 : decode cX5_mean 52 = .ok (.iload_n 1, 1) := by decide +kernel
theorem dX5_mean_53 : decode cX5_mean 53 = .ok (.ifCond .ne 7, 3) := by decide +kernel
theorem dX5_mean_56 : decode cX5_mean 56 = .ok (.dconst 0, 1) := by decide +kernel
theorem dX5_mean_57 : decode cX5_mean 57 = .ok (.goto 8, 3) := by decide +kernel
theorem dX5_mean_60 : decode cX5_mean 60 = .ok (.iload_n 2, 1) := by decide +kernel
theorem dX5_mean_61 : decode cX5_mean 61 = .ok (.i2d, 1) := by decide +kernel
theorem dX5_mean_62 : decode cX5_mean 62 = .ok (.iload_n 1, 1) := by decide +kernel
theorem dX5_mean_63 : decode cX5_mean 63 = .ok (.i2d, 1) := by decide +kernel
theorem dX5_mean_64 : decode cX5_mean 64 = .ok (.ddiv, 1) := by decide +kernel
theorem dX5_mean_65 : decode cX5_mean 65 = .ok (.dreturn, 1) := by decide +kernel
theorem dX5_digest_0 : decode cX5_digest 0 = .ok (.aload_n 0, 1) := by decide +kernel
theorem dX5_digest_1 : decode cX5_digest 1 = .ok (.iconst 0, 1) := by decide +kernel
theorem dX5_digest_2 : decode cX5_digest 2 = .ok (.putfield 52, 3) := by decide +kernel
theorem dX5_digest_5 : decode cX5_digest 5 = .ok (.ldc2_w 186, 3) := by decide +kernel
theorem dX5_digest_8 : decode cX5_digest 8 = .ok (.lstore_n 1, 1) := by decide +kernel
theorem dX5_digest_9 : decode cX5_digest 9 = .ok (.iconst 0, 1) := by decide +kernel
theorem dX5_digest_10 : decode cX5_digest 10 = .ok (.istore_n 3, 1) := by decide +kernel
theorem dX5_digest_11 : decode cX5_digest 11 = .ok (.iload_n 3, 1) := by decide +kernel
theorem dX5_digest_12 : decode cX5_digest 12 = .ok (.bipush 8, 2) := by decide +kernel
theorem dX5_digest_14 : decode cX5_digest 14 = .ok (.if_icmp .gt 22, 3) := by decide +kernel
theorem dX5_digest_17 : decode cX5_digest 17 = .ok (.lload_n 1, 1) := by decide +kernel
theorem dX5_digest_18 : decode cX5_digest 18 = .ok (.ldc2_w 188, 3) := by decide +kernel
theorem dX5_digest_21 : decode cX5_digest 21 = .ok (.lmul, 1) := by decide +kernel
theorem dX5_digest_22 : decode cX5_digest 22 = .ok (.aload_n 0, 1) := by decide +kernel
theorem dX5_digest_23 : decode cX5_digest 23 = .ok (.iload_n 3, 1) := by decide +kernel
theorem dX5_digest_24 : decode cX5_digest 24 = .ok (.invokevirtual 174, 3) := by decide +kernel
theorem dX5_digest_27 : decode cX5_digest 27 = .ok (.i2l, 1) := by decide +kernel
theorem dX5_digest_28 : decode cX5_digest 28 = .ok (.ladd, 1) := by decide +kernel
theorem dX5_digest_29 : decode cX5_digest 29 = .ok (.lstore_n 1, 1) := by decide +kernel
theorem dX5_digest_30 : decode cX5_digest 30 = .ok (.iinc 3 1, 3) := by decide +kernel
theorem dX5_digest_33 : decode cX5_digest 33 = .ok (.goto (-22), 3) := by decide +kernel
theorem dX5_digest_36 : decode cX5_digest 36 = .ok (.iconst 0, 1) := by decide +kernel
theorem dX5_digest_37 : decode cX5_digest 37 = .ok (.istore_n 3, 1) := by decide +kernel
theorem dX5_digest_38 : decode cX5_digest 38 = .ok (.iload_n 3, 1) := by decide +kernel
theorem dX5_digest_39 : decode cX5_digest 39 = .ok (.aload_n 0, 1) := by decide +kernel
theorem dX5_digest_40 : decode cX5_digest 40 = .ok (.getfield 56, 3) := by decide +kernel
theorem dX5_digest_43 : decode cX5_digest 43 = .ok (.if_icmp .ge 44, 3) := by decide +kernel
theorem dX5_digest_46 : decode cX5_digest 46 = .ok (.iconst 0, 1) := by decide +kernel
theorem dX5_digest_47 : decode cX5_digest 47 = .ok (.istore 4, 2) := by decide +kernel
theorem dX5_digest_49 : decode cX5_digest 49 = .ok (.iload 4, 2) := by decide +kernel
theorem dX5_digest_51 : decode cX5_digest 51 = .ok (.bipush 7, 2) := by decide +kernel
theorem dX5_digest_53 : decode cX5_digest 53 = .ok (.if_icmp .gt 28, 3) := by decide +kernel
theorem dX5_digest_56 : decode cX5_digest 56 = .ok (.lload_n 1, 1) := by decide +kernel
theorem dX5_digest_57 : decode cX5_digest 57 = .ok (.ldc2_w 188, 3) := by decide +kernel
theorem dX5_digest_60 : decode cX5_digest 60 = .ok (.lmul, 1) := by decide +kernel
theorem dX5_digest_61 : decode cX5_digest 61 = .ok (.aload_n 0, 1) := by decide +kernel
theorem dX5_digest_62 : decode cX5_digest 62 = .ok (.aload_n 0, 1) := by decide +kernel
theorem dX5_digest_63 : decode cX5_digest 63 = .ok (.getfield 45, 3) := by decide +kernel
theorem dX5_digest_66 : decode cX5_digest 66 = .ok (.iload_n 3, 1) := by decide +kernel
theorem dX5_digest_67 : decode cX5_digest 67 = .ok (.iload 4, 2) := by decide +kernel
theorem dX5_digest_69 : decode cX5_digest 69 = .ok (.invokevirtual 126, 3) := by decide +kernel
theorem dX5_digest_72 : decode cX5_digest 72 = .ok (.i2l, 1) := by decide +kernel
theorem dX5_digest_73 : decode cX5_digest 73 = .ok (.ladd, 1) := by decide +kernel
theorem dX5_digest_74 : decode cX5_digest 74 = .ok (.lstore_n 1, 1) := by decide +kernel
theorem dX5_digest_75 : decode cX5_digest 75 = .ok (.iinc 4 1, 3) := by decide +kernel
theorem dX5_digest_78 : decode cX5_digest 78 = .ok (.goto (-29), 3) := by decide +kernel
theorem dX5_digest_81 : decode cX5_digest 81 = .ok (.iinc 3 1, 3) := by decide +kernel
theorem dX5_digest_84 : decode cX5_digest 84 = .ok (.goto (-46), 3) := by decide +kernel
theorem dX5_digest_87 : decode cX5_digest 87 = .ok (.iconst 0, 1) := by decide +kernel
theorem dX5_digest_88 : decode cX5_digest 88 = .ok (.istore_n 3, 1) := by decide +kernel
theorem dX5_digest_89 : decode cX5_digest 89 = .ok (.iload_n 3, 1) := by decide +kernel
theorem dX5_digest_90 : decode cX5_digest 90 = .ok (.bipush 18, 2) := by decide +kernel
theorem dX5_digest_92 : decode cX5_digest 92 = .ok (.if_icmp .ge 46, 3) := by decide +kernel
theorem dX5_digest_95 : decode cX5_digest 95 = .ok (.iconst 0, 1) := by decide +kernel
theorem dX5_digest_96 : decode cX5_digest 96 = .ok (.istore 4, 2) := by decide +kernel
theorem dX5_digest_98 : decode cX5_digest 98 = .ok (.iload 4, 2) := by decide +kernel
theorem dX5_digest_100 : decode cX5_digest 100 = .ok (.iconst 2, 1) := by decide +kernel
theorem dX5_digest_101 : decode cX5_digest 101 = .ok (.if_icmp .gt 31, 3) := by decide +kernel
theorem dX5_digest_104 : decode cX5_digest 104 = .ok (.lload_n 1, 1) := by decide +kernel
theorem dX5_digest_105 : decode cX5_digest 105 = .ok (.ldc2_w 188, 3) := by decide +kernel
end
section
theorem dX5_digest_108 : decode cX5_digest 108 = .ok (.lmul, 1) := by decide +kernel
theorem dX5_digest_109 : decode cX5_digest 109 = .ok (.aload_n 0, 1) := by decide +kernel
theorem dX5_digest_110 : decode cX5_digest 110 = .ok (.iload_n 3, 1) := by decide +kernel
theorem dX5_digest_111 : decode cX5_digest 111 = .ok (.bipush 6, 2) := by decide +kernel
theorem dX5_digest_113 : decode cX5_digest 113 = .ok (.idiv, 1) := by decide +kernel
theorem dX5_digest_114 : decode cX5_digest 114 = .ok (.iload_n 3, 1) := by decide +kernel
theorem dX5_digest_115 : decode cX5_digest 115 = .ok (.bipush 6, 2) := by decide +kernel
theorem dX5_digest_117 : decode cX5_digest 117 = .ok (.irem, 1) := by decide +kernel
theorem dX5_digest_118 : decode cX5_digest 118 = .ok (.iload 4, 2) := by decide +kernel
theorem dX5_digest_120 : decode cX5_digest 120 = .ok (.invokevirtual 134, 3) := by decide +kernel
theorem dX5_digest_123 : decode cX5_digest 123 = .ok (.i2l, 1) := by decide +kernel
theorem dX5_digest_124 : decode cX5_digest 124 = .ok (.ladd, 1) := by decide +kernel
theorem dX5_digest_125 : decode cX5_digest 125 = .ok (.lstore_n 1, 1) := by decide +kernel
theorem dX5_digest_126 : decode cX5_digest 126 = .ok (.iinc 4 1, 3) := by decide +kernel
theorem dX5_digest_129 : decode cX5_digest 129 = .ok (.goto (-31), 3) := by decide +kernel
theorem dX5_digest_132 : decode cX5_digest 132 = .ok (.iinc 3 1, 3) := by decide +kernel
theorem dX5_digest_135 : decode cX5_digest 135 = .ok (.goto (-46), 3) := by decide +kernel
theorem dX5_digest_138 : decode cX5_digest 138 = .ok (.iconst 0, 1) := by decide +kernel
theorem dX5_digest_139 : decode cX5_digest 139 = .ok (.istore_n 3, 1) := by decide +kernel
theorem dX5_digest_140 : decode cX5_digest 140 = .ok (.iload_n 3, 1) := by decide +kernel
theorem dX5_digest_141 : decode cX5_digest 141 = .ok (.aload_n 0, 1) := by decide +kernel
theorem dX5_digest_142 : decode cX5_digest 142 = .ok (.getfield 63, 3) := by decide +kernel
theorem dX5_digest_145 : decode cX5_digest 145 = .ok (.if_icmp .ge 115, 3) := by decide +kernel
theorem dX5_digest_148 : decode cX5_digest 148 = .ok (.iconst 0, 1) := by decide +kernel
theorem dX5_digest_149 : decode cX5_digest 149 = .ok (.istore 4, 2) := by decide +kernel
theorem dX5_digest_151 : decode cX5_digest 151 = .ok (.iload 4, 2) := by decide +kernel
theorem dX5_digest_153 : decode cX5_digest 153 = .ok (.iconst 5, 1) := by decide +kernel
theorem dX5_digest_154 : decode cX5_digest 154 = .ok (.if_icmp .gt 24, 3) := by decide +kernel
theorem dX5_digest_157 : decode cX5_digest 157 = .ok (.lload_n 1, 1) := by decide +kernel
theorem dX5_digest_158 : decode cX5_digest 158 = .ok (.ldc2_w 188, 3) := by decide +kernel
theorem dX5_digest_161 : decode cX5_digest 161 = .ok (.lmul, 1) := by decide +kernel
theorem dX5_digest_162 : decode cX5_digest 162 = .ok (.aload_n 0, 1) := by decide +kernel
theorem dX5_digest_163 : decode cX5_digest 163 = .ok (.iload_n 3, 1) := by decide +kernel
theorem dX5_digest_164 : decode cX5_digest 164 = .ok (.iload 4, 2) := by decide +kernel
theorem dX5_digest_166 : decode cX5_digest 166 = .ok (.invokevirtual 150, 3) := by decide +kernel
theorem dX5_digest_169 : decode cX5_digest 169 = .ok (.i2l, 1) := by decide +kernel
theorem dX5_digest_170 : decode cX5_digest 170 = .ok (.ladd, 1) := by decide +kernel
theorem dX5_digest_171 : decode cX5_digest 171 = .ok (.lstore_n 1, 1) := by decide +kernel
theorem dX5_digest_172 : decode cX5_digest 172 = .ok (.iinc 4 1, 3) := by decide +kernel
theorem dX5_digest_175 : decode cX5_digest 175 = .ok (.goto (-24), 3) := by decide +kernel
theorem dX5_digest_178 : decode cX5_digest 178 = .ok (.iconst 0, 1) := by decide +kernel
theorem dX5_digest_179 : decode cX5_digest 179 = .ok (.istore 4, 2) := by decide +kernel
theorem dX5_digest_181 : decode cX5_digest 181 = .ok (.iload 4, 2) := by decide +kernel
theorem dX5_digest_183 : decode cX5_digest 183 = .ok (.aload_n 0, 1) := by decide +kernel
theorem dX5_digest_184 : decode cX5_digest 184 = .ok (.getfield 19, 3) := by decide +kernel
theorem dX5_digest_187 : decode cX5_digest 187 = .ok (.iload_n 3, 1) := by decide +kernel
theorem dX5_digest_188 : decode cX5_digest 188 = .ok (.iaload, 1) := by decide +kernel
theorem dX5_digest_189 : decode cX5_digest 189 = .ok (.if_icmp .ge 29, 3) := by decide +kernel
theorem dX5_digest_192 : decode cX5_digest 192 = .ok (.lload_n 1, 1) := by decide +kernel
theorem dX5_digest_193 : decode cX5_digest 193 = .ok (.ldc2_w 188, 3) := by decide +kernel
theorem dX5_digest_196 : decode cX5_digest 196 = .ok (.lmul, 1) := by decide +kernel
theorem dX5_digest_197 : decode cX5_digest 197 = .ok (.aload_n 0, 1) := by decide +kernel
theorem dX5_digest_198 : decode cX5_digest 198 = .ok (.getfield 22, 3) := by decide +kernel
theorem dX5_digest_201 : decode cX5_digest 201 = .ok (.bipush 12, 2) := by decide +kernel
theorem dX5_digest_203 : decode cX5_digest 203 = .ok (.iload_n 3, 1) := by decide +kernel
theorem dX5_digest_204 : decode cX5_digest 204 = .ok (.imul, 1) := by decide +kernel
theorem dX5_digest_205 : decode cX5_digest 205 = .ok (.iload 4, 2) := by decide +kernel
theorem dX5_digest_207 : decode cX5_digest 207 = .ok (.iadd, 1) := by decide +kernel
theorem dX5_digest_208 : decode cX5_digest 208 = .ok (.iaload, 1) := by decide +kernel
theorem dX5_digest_209 : decode cX5_digest 209 = .ok (.i2l, 1) := by decide +kernel
theorem dX5_digest_210 : decode cX5_digest 210 = .ok (.ladd, 1) := by decide +kernel
theorem dX5_digest_211 : decode cX5_digest 211 = .ok (.lstore_n 1, 1) := by decide +kernel
theorem dX5_digest_212 : decode cX5_digest 212 = .ok (.iinc 4 1, 3) := by decide +kernel
theorem dX5_digest_215 : decode cX5_digest 215 = .ok (.goto (-34), 3) := by decide +kernel
theorem dX5_digest_218 : decode cX5_digest 218 = .ok (.aload_n 0, 1) := by decide +kernel
theorem dX5_digest_219 : decode cX5_digest 219 = .ok (.iload_n 3, 1) := by decide +kernel
theorem dX5_digest_220 : decode cX5_digest 220 = .ok (.invokevirtual 141, 3) := by decide +kernel
theorem dX5_digest_223 : decode cX5_digest 223 = .ok (.pop, 1) := by decide +kernel
theorem dX5_digest_224 : decode cX5_digest 224 = .ok (.iconst 0, 1) := by decide +kernel
theorem dX5_digest_225 : decode cX5_digest 225 = .ok (.istore 4, 2) := by decide +kernel
theorem dX5_digest_227 : decode cX5_digest 227 = .ok (.iload 4, 2) := by decide +kernel
theorem dX5_digest_229 : decode cX5_digest 229 = .ok (.bipush 6, 2) := by decide +kernel
theorem dX5_digest_231 : decode cX5_digest 231 = .ok (.if_icmp .ge 23, 3) := by decide +kernel
theorem dX5_digest_234 : decode cX5_digest 234 = .ok (.lload_n 1, 1) := by decide +kernel
theorem dX5_digest_235 : decode cX5_digest 235 = .ok (.ldc2_w 188, 3) := by decide +kernel
theorem dX5_digest_238 : decode cX5_digest 238 = .ok (.lmul, 1) := by decide +kernel
theorem dX5_digest_239 : decode cX5_digest 239 = .ok (.aload_n 0, 1) := by decide +kernel
theorem dX5_digest_240 : decode cX5_digest 240 = .ok (.iload 4, 2) := by decide +kernel
theorem dX5_digest_242 : decode cX5_digest 242 = .ok (.invokevirtual 144, 3) := by decide +kernel
theorem dX5_digest_245 : decode cX5_digest 245 = .ok (.i2l, 1) := by decide +kernel
theorem dX5_digest_246 : decode cX5_digest 246 = .ok (.ladd, 1) := by decide +kernel
theorem dX5_digest_247 : decode cX5_digest 247 = .ok (.lstore_n 1, 1) := by decide +kernel
theorem dX5_digest_248 : decode cX5_digest 248 = .ok (.iinc 4 1, 3) := by decide +kernel
theorem dX5_digest_251 : decode cX5_digest 251 = .ok (.goto (-24), 3) := by decide +kernel
theorem dX5_digest_254 : decode cX5_digest 254 = .ok (.iinc 3 1, 3) := by decide +kernel
theorem dX5_digest_257 : decode cX5_digest 257 = .ok (.goto (-117), 3) := by decide +kernel
theorem dX5_digest_260 : decode cX5_digest 260 = .ok (.lload_n 1, 1) := by decide +kernel
theorem dX5_digest_261 : decode cX5_digest 261 = .ok (.lreturn, 1) := by decide +kernel
theorem dJ9_max_7cf53_0 : decode cJ9_max_7cf53 0 = .ok (.iload_n 0, 1) := by decide +kernel
theorem dJ9_max_7cf53_1 : decode cJ9_max_7cf53 1 = .ok (.iload_n 1, 1) := by decide +kernel
theorem dJ9_max_7cf53_2 : decode cJ9_max_7cf53 2 = .ok (.if_icmp .lt 7, 3) := by decide +kernel
theorem dJ9_max_7cf53_5 : decode cJ9_max_7cf53 5 = .ok (.iload_n 0, 1) := by decide +kernel
theorem dJ9_max_7cf53_6 : decode cJ9_max_7cf53 6 = .ok (.goto 4, 3) := by decide +kernel
theorem dJ9_max_7cf53_9 : decode cJ9_max_7cf53 9 = .ok (.iload_n 1, 1) := by decide +kernel
theorem dJ9_max_7cf53_10 : decode cJ9_max_7cf53 10 = .ok (.ireturn, 1) := by decide +kernel
theorem dJ9_min_7cf53_0 : decode cJ9_min_7cf53 0 = .ok (.iload_n 0, 1) := by decide +kernel
theorem dJ9_min_7cf53_1 : decode cJ9_min_7cf53 1 = .ok (.iload_n 1, 1) := by decide +kernel
theorem dJ9_min_7cf53_2 : decode cJ9_min_7cf53 2 = .ok (.if_icmp .gt 7, 3) := by decide +kernel
theorem dJ9_min_7cf53_5 : decode cJ9_min_7cf53 5 = .ok (.iload_n 0, 1) := by decide +kernel
theorem dJ9_min_7cf53_6 : decode cJ9_min_7cf53 6 = .ok (.goto 4, 3) := by decide +kernel
theorem dJ9_min_7cf53_9 : decode cJ9_min_7cf53 9 = .ok (.iload_n 1, 1) := by decide +kernel
theorem dJ9_min_7cf53_10 : decode cJ9_min_7cf53 10 = .ok (.ireturn, 1) := by decide +kernel
theorem dJ7_fill_d0a16_0 : decode cJ7_fill_d0a16 0 = .ok (.iconst 0, 1) := by decide +kernel
theorem dJ7_fill_d0a16_1 : decode cJ7_fill_d0a16 1 = .ok (.istore_n 3, 1) := by decide +kernel
theorem dJ7_fill_d0a16_2 : decode cJ7_fill_d0a16 2 = .ok (.aload_n 0, 1) := by decide +kernel
theorem dJ7_fill_d0a16_3 : decode cJ7_fill_d0a16 3 = .ok (.arraylength, 1) := by decide +kernel
theorem dJ7_fill_d0a16_4 : decode cJ7_fill_d0a16 4 = .ok (.istore 4, 2) := by decide +kernel
theorem dJ7_fill_d0a16_6 : decode cJ7_fill_d0a16 6 = .ok (.iload_n 3, 1) := by decide +kernel
theorem dJ7_fill_d0a16_7 : decode cJ7_fill_d0a16 7 = .ok (.iload 4, 2) := by decide +kernel
theorem dJ7_fill_d0a16_9 : decode cJ7_fill_d0a16 9 = .ok (.if_icmp .ge 13, 3) := by decide +kernel
theorem dJ7_fill_d0a16_12 : decode cJ7_fill_d0a16 12 = .ok (.aload_n 0, 1) := by decide +kernel
theorem dJ7_fill_d0a16_13 : decode cJ7_fill_d0a16 13 = .ok (.iload_n 3, 1) := by decide +kernel
theorem dJ7_fill_d0a16_14 : decode cJ7_fill_d0a16 14 = .ok (.lload_n 1, 1) := by decide +kernel
theorem dJ7_fill_d0a16_15 : decode cJ7_fill_d0a16 15 = .ok (.lastore, 1) := by decide +kernel
theorem dJ7_fill_d0a16_16 : decode cJ7_fill_d0a16 16 = .ok (.iinc 3 1, 3) := by decide +kernel
theorem dJ7_fill_d0a16_19 : decode cJ7_fill_d0a16 19 = .ok (.goto (-13), 3) := by decide +kernel
theorem dJ7_fill_d0a16_22 : decode cJ7_fill_d0a16 22 = .ok (.return_, 1) := by decide +kernel
theorem dJ7_fill_53178_0 : decode cJ7_fill_53178 0 = .ok (.iconst 0, 1) := by decide +kernel
theorem dJ7_fill_53178_1 : decode cJ7_fill_53178 1 = .ok (.istore_n 2, 1) := by decide +kernel
theorem dJ7_fill_53178_2 : decode cJ7_fill_53178 2 = .ok (.aload_n 0, 1) := by decide +kernel
theorem dJ7_fill_53178_3 : decode cJ7_fill_53178 3 = .ok (.arraylength, 1) := by decide +kernel
theorem dJ7_fill_53178_4 : decode cJ7_fill_53178 4 = .ok (.istore_n 3, 1) := by decide +kernel
theorem dJ7_fill_53178_5 : decode cJ7_fill_53178 5 = .ok (.iload_n 2, 1) := by decide +kernel
theorem dJ7_fill_53178_6 : decode cJ7_fill_53178 6 = .ok (.iload_n 3, 1) := by decide +kernel
theorem dJ7_fill_53178_7 : decode cJ7_fill_53178 7 = .ok (.if_icmp .ge 13, 3) := by decide +kernel
theorem dJ7_fill_53178_10 : decode cJ7_fill_53178 10 = .ok (.aload_n 0, 1) := by decide +kernel
theorem dJ7_fill_53178_11 : decode cJ7_fill_53178 11 = .ok (.iload_n 2, 1) := by decide +kernel
theorem dJ7_fill_53178_12 : decode cJ7_fill_53178 12 = .ok (.iload_n 1, 1) := by decide +kernel
theorem dJ7_fill_53178_13 : decode cJ7_fill_53178 13 = .ok (.iastore, 1) := by decide +kernel
theorem dJ7_fill_53178_14 : decode cJ7_fill_53178 14 = .ok (.iinc 2 1, 3) := by decide +kernel
theorem dJ7_fill_53178_17 : decode cJ7_fill_53178 17 = .ok (.goto (-12), 3) := by decide +kernel
theorem dJ7_fill_53178_20 : decode cJ7_fill_53178 20 = .ok (.return_, 1) := by decide +kernel
theorem dL_ringer_0 : decode cL_ringer 0 = .ok (.aload 4, 2) := by decide +kernel
theorem dL_ringer_2 : decode cL_ringer 2 = .ok (.iconst 0, 1) := by decide +kernel
theorem dL_ringer_3 : decode cL_ringer 3 = .ok (.aload_n 0, 1) := by decide +kernel
theorem dL_ringer_4 : decode cL_ringer 4 = .ok (.iload_n 1, 1) := by decide +kernel
theorem dL_ringer_5 : decode cL_ringer 5 = .ok (.iload_n 2, 1) := by decide +kernel
theorem dL_ringer_6 : decode cL_ringer 6 = .ok (.iload_n 3, 1) := by decide +kernel
theorem dL_ringer_7 : decode cL_ringer 7 = .ok (.invokevirtual 7, 3) := by decide +kernel
theorem dL_ringer_10 : decode cL_ringer 10 = .ok (.i2l, 1) := by decide +kernel
theorem dL_ringer_11 : decode cL_ringer 11 = .ok (.lastore, 1) := by decide +kernel
theorem dL_ringer_12 : decode cL_ringer 12 = .ok (.goto 15, 3) := by decide +kernel
theorem dL_ringer_15 : decode cL_ringer 15 = .ok (.astore 5, 2) := by decide +kernel
theorem dL_ringer_17 : decode cL_ringer 17 = .ok (.iconst 1, 1) := by decide +kernel
theorem dL_ringer_18 : decode cL_ringer 18 = .ok (.ireturn, 1) := by decide +kernel
theorem dL_ringer_19 : decode cL_ringer 19 = .ok (.astore 5, 2) := by decide +kernel
theorem dL_ringer_21 : decode cL_ringer 21 = .ok (.iconst 2, 1) := by decide +kernel
theorem dL_ringer_22 : decode cL_ringer 22 = .ok (.ireturn, 1) := by decide +kernel
theorem dL_ringer_23 : decode cL_ringer 23 = .ok (.astore 5, 2) := by decide +kernel
theorem dL_ringer_25 : decode cL_ringer 25 = .ok (.iconst 3, 1) := by decide +kernel
theorem dL_ringer_26 : decode cL_ringer 26 = .ok (.ireturn, 1) := by decide +kernel
theorem dL_ringer_27 : decode cL_ringer 27 = .ok (.iconst 0, 1) := by decide +kernel
theorem dL_ringer_28 : decode cL_ringer 28 = .ok (.ireturn, 1) := by decide +kernel
theorem dL_vote_0 : decode cL_vote 0 = .ok (.aload_n 3, 1) := by decide +kernel
theorem dL_vote_1 : decode cL_vote 1 = .ok (.iconst 0, 1) := by decide +kernel
theorem dL_vote_2 : decode cL_vote 2 = .ok (.aload_n 0, 1) := by decide +kernel
theorem dL_vote_3 : decode cL_vote 3 = .ok (.iload_n 1, 1) := by decide +kernel
theorem dL_vote_4 : decode cL_vote 4 = .ok (.iload_n 2, 1) := by decide +kernel
theorem dL_vote_5 : decode cL_vote 5 = .ok (.invokevirtual 19, 3) := by decide +kernel
theorem dL_vote_8 : decode cL_vote 8 = .ok (.i2l, 1) := by decide +kernel
theorem dL_vote_9 : decode cL_vote 9 = .ok (.lastore, 1) := by decide +kernel
theorem dL_vote_10 : decode cL_vote 10 = .ok (.goto 11, 3) := by decide +kernel
theorem dL_vote_13 : decode cL_vote 13 = .ok (.astore 4, 2) := by decide +kernel
theorem dL_vote_15 : decode cL_vote 15 = .ok (.iconst 1, 1) := by decide +kernel
theorem dL_vote_16 : decode cL_vote 16 = .ok (.ireturn, 1) := by decide +kernel
theorem dL_vote_17 : decode cL_vote 17 = .ok (.astore 4, 2) := by decide +kernel
theorem dL_vote_19 : decode cL_vote 19 = .ok (.iconst 2, 1) := by decide +kernel
theorem dL_vote_20 : decode cL_vote 20 = .ok (.ireturn, 1) := by decide +kernel
theorem dL_vote_21 : decode cL_vote 21 = .ok (.iconst 0, 1) := by decide +kernel
theorem dL_vote_22 : decode cL_vote 22 = .ok (.ireturn, 1) := by decide +kernel
theorem dL_seat_0 : decode cL_seat 0 = .ok (.aload 4, 2) := by decide +kernel
theorem dL_seat_2 : decode cL_seat 2 = .ok (.iconst 0, 1) := by decide +kernel
theorem dL_seat_3 : decode cL_seat 3 = .ok (.aload_n 0, 1) := by decide +kernel
theorem dL_seat_4 : decode cL_seat 4 = .ok (.iload_n 1, 1) := by decide +kernel
theorem dL_seat_5 : decode cL_seat 5 = .ok (.iload_n 2, 1) := by decide +kernel
theorem dL_seat_6 : decode cL_seat 6 = .ok (.iload_n 3, 1) := by decide +kernel
theorem dL_seat_7 : decode cL_seat 7 = .ok (.invokevirtual 23, 3) := by decide +kernel
theorem dL_seat_10 : decode cL_seat 10 = .ok (.i2l, 1) := by decide +kernel
theorem dL_seat_11 : decode cL_seat 11 = .ok (.lastore, 1) := by decide +kernel
theorem dL_seat_12 : decode cL_seat 12 = .ok (.goto 7, 3) := by decide +kernel
theorem dL_seat_15 : decode cL_seat 15 = .ok (.astore 5, 2) := by decide +kernel
theorem dL_seat_17 : decode cL_seat 17 = .ok (.iconst 1, 1) := by decide +kernel
theorem dL_seat_18 : decode cL_seat 18 = .ok (.ireturn, 1) := by decide +kernel
theorem dL_seat_19 : decode cL_seat 19 = .ok (.iconst 0, 1) := by decide +kernel
theorem dL_seat_20 : decode cL_seat 20 = .ok (.ireturn, 1) := by decide +kernel
theorem dL_elect_0 : decode cL_elect 0 = .ok (.aload_n 2, 1) := by decide +kernel
theorem dL_elect_1 : decode cL_elect 1 = .ok (.iconst 0, 1) := by decide +kernel
theorem dL_elect_2 : decode cL_elect 2 = .ok (.aload_n 0, 1) := by decide +kernel
theorem dL_elect_3 : decode cL_elect 3 = .ok (.iload_n 1, 1) := by decide +kernel
theorem dL_elect_4 : decode cL_elect 4 = .ok (.invokevirtual 26, 3) := by decide +kernel
theorem dL_elect_7 : decode cL_elect 7 = .ok (.i2l, 1) := by decide +kernel
theorem dL_elect_8 : decode cL_elect 8 = .ok (.lastore, 1) := by decide +kernel
theorem dL_elect_9 : decode cL_elect 9 = .ok (.goto 6, 3) := by decide +kernel
theorem dL_elect_12 : decode cL_elect 12 = .ok (.astore_n 3, 1) := by decide +kernel
theorem dL_elect_13 : decode cL_elect 13 = .ok (.iconst 1, 1) := by decide +kernel
theorem dL_elect_14 : decode cL_elect 14 = .ok (.ireturn, 1) := by decide +kernel
theorem dL_elect_15 : decode cL_elect 15 = .ok (.iconst 0, 1) := by decide +kernel
theorem dL_elect_16 : decode cL_elect 16 = .ok (.ireturn, 1) := by decide +kernel
theorem dL_put_0 : decode cL_put 0 = .ok (.aload 4, 2) := by decide +kernel
theorem dL_put_2 : decode cL_put 2 = .ok (.iconst 0, 1) := by decide +kernel
theorem dL_put_3 : decode cL_put 3 = .ok (.aload_n 0, 1) := by decide +kernel
theorem dL_put_4 : decode cL_put 4 = .ok (.iload_n 1, 1) := by decide +kernel
theorem dL_put_5 : decode cL_put 5 = .ok (.iload_n 2, 1) := by decide +kernel
theorem dL_put_6 : decode cL_put 6 = .ok (.iload_n 3, 1) := by decide +kernel
theorem dL_put_7 : decode cL_put 7 = .ok (.invokevirtual 30, 3) := by decide +kernel
theorem dL_put_10 : decode cL_put 10 = .ok (.i2l, 1) := by decide +kernel
theorem dL_put_11 : decode cL_put 11 = .ok (.lastore, 1) := by decide +kernel
theorem dL_put_12 : decode cL_put 12 = .ok (.goto 11, 3) := by decide +kernel
theorem dL_put_15 : decode cL_put 15 = .ok (.astore 5, 2) := by decide +kernel
theorem dL_put_17 : decode cL_put 17 = .ok (.iconst 1, 1) := by decide +kernel
theorem dL_put_18 : decode cL_put 18 = .ok (.ireturn, 1) := by decide +kernel
theorem dL_put_19 : decode cL_put 19 = .ok (.astore 5, 2) := by decide +kernel
theorem dL_put_21 : decode cL_put 21 = .ok (.iconst 2, 1) := by decide +kernel
theorem dL_put_22 : decode cL_put 22 = .ok (.ireturn, 1) := by decide +kernel
theorem dL_put_23 : decode cL_put 23 = .ok (.iconst 0, 1) := by decide +kernel
theorem dL_put_24 : decode cL_put 24 = .ok (.ireturn, 1) := by decide +kernel
theorem dL_leave_0 : decode cL_leave 0 = .ok (.aload_n 2, 1) := by decide +kernel
theorem dL_leave_1 : decode cL_leave 1 = .ok (.iconst 0, 1) := by decide +kernel
theorem dL_leave_2 : decode cL_leave 2 = .ok (.aload_n 0, 1) := by decide +kernel
theorem dL_leave_3 : decode cL_leave 3 = .ok (.iload_n 1, 1) := by decide +kernel
theorem dL_leave_4 : decode cL_leave 4 = .ok (.invokevirtual 33, 3) := by decide +kernel
theorem dL_leave_7 : decode cL_leave 7 = .ok (.i2l, 1) := by decide +kernel
theorem dL_leave_8 : decode cL_leave 8 = .ok (.lastore, 1) := by decide +kernel
theorem dL_leave_9 : decode cL_leave 9 = .ok (.goto 9, 3) := by decide +kernel
theorem dL_leave_12 : decode cL_leave 12 = .ok (.astore_n 3, 1) := by decide +kernel
theorem dL_leave_13 : decode cL_leave 13 = .ok (.iconst 1, 1) := by decide +kernel
theorem dL_leave_14 : decode cL_leave 14 = .ok (.ireturn, 1) := by decide +kernel
theorem dL_leave_15 : decode cL_leave 15 = .ok (.astore_n 3, 1) := by decide +kernel
theorem dL_leave_16 : decode cL_leave 16 = .ok (.iconst 2, 1) := by decide +kernel
theorem dL_leave_17 : decode cL_leave 17 = .ok (.ireturn, 1) := by decide +kernel
theorem dL_leave_18 : decode cL_leave 18 = .ok (.iconst 0, 1) := by decide +kernel
theorem dL_leave_19 : decode cL_leave 19 = .ok (.ireturn, 1) := by decide +kernel
theorem dL_told_0 : decode cL_told 0 = .ok (.aload_n 3, 1) := by decide +kernel
theorem dL_told_1 : decode cL_told 1 = .ok (.iconst 0, 1) := by decide +kernel
theorem dL_told_2 : decode cL_told 2 = .ok (.aload_n 0, 1) := by decide +kernel
theorem dL_told_3 : decode cL_told 3 = .ok (.iload_n 1, 1) := by decide +kernel
theorem dL_told_4 : decode cL_told 4 = .ok (.iload_n 2, 1) := by decide +kernel
theorem dL_told_5 : decode cL_told 5 = .ok (.invokevirtual 36, 3) := by decide +kernel
theorem dL_told_8 : decode cL_told 8 = .ok (.i2l, 1) := by decide +kernel
theorem dL_told_9 : decode cL_told 9 = .ok (.lastore, 1) := by decide +kernel
theorem dL_told_10 : decode cL_told 10 = .ok (.goto 7, 3) := by decide +kernel
theorem dL_told_13 : decode cL_told 13 = .ok (.astore 4, 2) := by decide +kernel
theorem dL_told_15 : decode cL_told 15 = .ok (.iconst 1, 1) := by decide +kernel
theorem dL_told_16 : decode cL_told 16 = .ok (.ireturn, 1) := by decide +kernel
theorem dL_told_17 : decode cL_told 17 = .ok (.iconst 0, 1) := by decide +kernel
theorem dL_told_18 : decode cL_told 18 = .ok (.ireturn, 1) := by decide +kernel
theorem dL_bell_0 : decode cL_bell 0 = .ok (.aload 4, 2) := by decide +kernel
theorem dL_bell_2 : decode cL_bell 2 = .ok (.iconst 0, 1) := by decide +kernel
theorem dL_bell_3 : decode cL_bell 3 = .ok (.aload_n 0, 1) := by decide +kernel
theorem dL_bell_4 : decode cL_bell 4 = .ok (.iload_n 1, 1) := by decide +kernel
theorem dL_bell_5 : decode cL_bell 5 = .ok (.iload_n 2, 1) := by decide +kernel
theorem dL_bell_6 : decode cL_bell 6 = .ok (.iload_n 3, 1) := by decide +kernel
theorem dL_bell_7 : decode cL_bell 7 = .ok (.invokevirtual 39, 3) := by decide +kernel
theorem dL_bell_10 : decode cL_bell 10 = .ok (.i2l, 1) := by decide +kernel
theorem dL_bell_11 : decode cL_bell 11 = .ok (.lastore, 1) := by decide +kernel
theorem dL_bell_12 : decode cL_bell 12 = .ok (.goto 7, 3) := by decide +kernel
theorem dL_bell_15 : decode cL_bell 15 = .ok (.astore 5, 2) := by decide +kernel
theorem dL_bell_17 : decode cL_bell 17 = .ok (.iconst 1, 1) := by decide +kernel
theorem dL_bell_18 : decode cL_bell 18 = .ok (.ireturn, 1) := by decide +kernel
theorem dL_bell_19 : decode cL_bell 19 = .ok (.iconst 0, 1) := by decide +kernel
theorem dL_bell_20 : decode cL_bell 20 = .ok (.ireturn, 1) := by decide +kernel
theorem dL_method_0 : decode cL_method 0 = .ok (.aload_n 1, 1) := by decide +kernel
theorem dL_method_1 : decode cL_method 1 = .ok (.iconst 0, 1) := by decide +kernel
theorem dL_method_2 : decode cL_method 2 = .ok (.aload_n 0, 1) := by decide +kernel
theorem dL_method_3 : decode cL_method 3 = .ok (.invokevirtual 42, 3) := by decide +kernel
theorem dL_method_6 : decode cL_method 6 = .ok (.i2l, 1) := by decide +kernel
theorem dL_method_7 : decode cL_method 7 = .ok (.lastore, 1) := by decide +kernel
theorem dL_method_8 : decode cL_method 8 = .ok (.goto 6, 3) := by decide +kernel
theorem dL_method_11 : decode cL_method 11 = .ok (.astore_n 2, 1) := by decide +kernel
theorem dL_method_12 : decode cL_method 12 = .ok (.iconst 1, 1) := by decide +kernel
theorem dL_method_13 : decode cL_method 13 = .ok (.ireturn, 1) := by decide +kernel
theorem dL_method_14 : decode cL_method 14 = .ok (.iconst 0, 1) := by decide +kernel
theorem dL_method_15 : decode cL_method 15 = .ok (.ireturn, 1) := by decide +kernel
theorem dL_add_0 : decode cL_add 0 = .ok (.aload_n 3, 1) := by decide +kernel
theorem dL_add_1 : decode cL_add 1 = .ok (.iconst 0, 1) := by decide +kernel
theorem dL_add_2 : decode cL_add 2 = .ok (.aload_n 0, 1) := by decide +kernel
theorem dL_add_3 : decode cL_add 3 = .ok (.iload_n 1, 1) := by decide +kernel
theorem dL_add_4 : decode cL_add 4 = .ok (.iload_n 2, 1) := by decide +kernel
theorem dL_add_5 : decode cL_add 5 = .ok (.invokevirtual 46, 3) := by decide +kernel
theorem dL_add_8 : decode cL_add 8 = .ok (.i2l, 1) := by decide +kernel
theorem dL_add_9 : decode cL_add 9 = .ok (.lastore, 1) := by decide +kernel
theorem dL_add_10 : decode cL_add 10 = .ok (.goto 15, 3) := by decide +kernel
theorem dL_add_13 : decode cL_add 13 = .ok (.astore 4, 2) := by decide +kernel
theorem dL_add_15 : decode cL_add 15 = .ok (.iconst 1, 1) := by decide +kernel
theorem dL_add_16 : decode cL_add 16 = .ok (.ireturn, 1) := by decide +kernel
theorem dL_add_17 : decode cL_add 17 = .ok (.astore 4, 2) := by decide +kernel
theorem dL_add_19 : decode cL_add 19 = .ok (.iconst 2, 1) := by decide +kernel
theorem dL_add_20 : decode cL_add 20 = .ok (.ireturn, 1) := by decide +kernel
theorem dL_add_21 : decode cL_add 21 = .ok (.astore 4, 2) := by decide +kernel
theorem dL_add_23 : decode cL_add 23 = .ok (.iconst 3, 1) := by decide +kernel
theorem dL_add_24 : decode cL_add 24 = .ok (.ireturn, 1) := by decide +kernel
theorem dL_add_25 : decode cL_add 25 = .ok (.iconst 0, 1) := by decide +kernel
theorem dL_add_26 : decode cL_add 26 = .ok (.ireturn, 1) := by decide +kernel
theorem dL_about_0 : decode cL_about 0 = .ok (.aload_n 3, 1) := by decide +kernel
theorem dL_about_1 : decode cL_about 1 = .ok (.iconst 0, 1) := by decide +kernel
theorem dL_about_2 : decode cL_about 2 = .ok (.aload_n 0, 1) := by decide +kernel
theorem dL_about_3 : decode cL_about 3 = .ok (.iload_n 1, 1) := by decide +kernel
theorem dL_about_4 : decode cL_about 4 = .ok (.iload_n 2, 1) := by decide +kernel
theorem dL_about_5 : decode cL_about 5 = .ok (.invokevirtual 49, 3) := by decide +kernel
theorem dL_about_8 : decode cL_about 8 = .ok (.i2l, 1) := by decide +kernel
theorem dL_about_9 : decode cL_about 9 = .ok (.lastore, 1) := by decide +kernel
theorem dL_about_10 : decode cL_about 10 = .ok (.goto 7, 3) := by decide +kernel
theorem dL_about_13 : decode cL_about 13 = .ok (.astore 4, 2) := by decide +kernel
theorem dL_about_15 : decode cL_about 15 = .ok (.iconst 1, 1) := by decide +kernel
theorem dL_about_16 : decode cL_about 16 = .ok (.ireturn, 1) := by decide +kernel
theorem dL_about_17 : decode cL_about 17 = .ok (.iconst 0, 1) := by decide +kernel
theorem dL_about_18 : decode cL_about 18 = .ok (.ireturn, 1) := by decide +kernel
theorem dL_row_0 : decode cL_row 0 = .ok (.aload_n 3, 1) := by decide +kernel
theorem dL_row_1 : decode cL_row 1 = .ok (.iconst 0, 1) := by decide +kernel
theorem dL_row_2 : decode cL_row 2 = .ok (.aload_n 0, 1) := by decide +kernel
theorem dL_row_3 : decode cL_row 3 = .ok (.iload_n 1, 1) := by decide +kernel
theorem dL_row_4 : decode cL_row 4 = .ok (.iload_n 2, 1) := by decide +kernel
theorem dL_row_5 : decode cL_row 5 = .ok (.invokevirtual 52, 3) := by decide +kernel
theorem dL_row_8 : decode cL_row 8 = .ok (.i2l, 1) := by decide +kernel
theorem dL_row_9 : decode cL_row 9 = .ok (.lastore, 1) := by decide +kernel
theorem dL_row_10 : decode cL_row 10 = .ok (.goto 15, 3) := by decide +kernel
theorem dL_row_13 : decode cL_row 13 = .ok (.astore 4, 2) := by decide +kernel
theorem dL_row_15 : decode cL_row 15 = .ok (.iconst 1, 1) := by decide +kernel
theorem dL_row_16 : decode cL_row 16 = .ok (.ireturn, 1) := by decide +kernel
theorem dL_row_17 : decode cL_row 17 = .ok (.astore 4, 2) := by decide +kernel
theorem dL_row_19 : decode cL_row 19 = .ok (.iconst 2, 1) := by decide +kernel
theorem dL_row_20 : decode cL_row 20 = .ok (.ireturn, 1) := by decide +kernel
theorem dL_row_21 : decode cL_row 21 = .ok (.astore 4, 2) := by decide +kernel
theorem dL_row_23 : decode cL_row 23 = .ok (.iconst 3, 1) := by decide +kernel
theorem dL_row_24 : decode cL_row 24 = .ok (.ireturn, 1) := by decide +kernel
theorem dL_row_25 : decode cL_row 25 = .ok (.iconst 0, 1) := by decide +kernel
theorem dL_row_26 : decode cL_row 26 = .ok (.ireturn, 1) := by decide +kernel
theorem dL_dodges_0 : decode cL_dodges 0 = .ok (.aload_n 3, 1) := by decide +kernel
theorem dL_dodges_1 : decode cL_dodges 1 = .ok (.iconst 0, 1) := by decide +kernel
theorem dL_dodges_2 : decode cL_dodges 2 = .ok (.aload_n 0, 1) := by decide +kernel
theorem dL_dodges_3 : decode cL_dodges 3 = .ok (.iload_n 1, 1) := by decide +kernel
theorem dL_dodges_4 : decode cL_dodges 4 = .ok (.iload_n 2, 1) := by decide +kernel
theorem dL_dodges_5 : decode cL_dodges 5 = .ok (.invokevirtual 55, 3) := by decide +kernel
theorem dL_dodges_8 : decode cL_dodges 8 = .ok (.i2l, 1) := by decide +kernel
theorem dL_dodges_9 : decode cL_dodges 9 = .ok (.lastore, 1) := by decide +kernel
theorem dL_dodges_10 : decode cL_dodges 10 = .ok (.goto 7, 3) := by decide +kernel
theorem dL_dodges_13 : decode cL_dodges 13 = .ok (.astore 4, 2) := by decide +kernel
theorem dL_dodges_15 : decode cL_dodges 15 = .ok (.iconst 1, 1) := by decide +kernel
theorem dL_dodges_16 : decode cL_dodges 16 = .ok (.ireturn, 1) := by decide +kernel
theorem dL_dodges_17 : decode cL_dodges 17 = .ok (.iconst 0, 1) := by decide +kernel
theorem dL_dodges_18 : decode cL_dodges 18 = .ok (.ireturn, 1) := by decide +kernel
theorem dL_ring_0 : decode cL_ring 0 = .ok (.aload 4, 2) := by decide +kernel
theorem dL_ring_2 : decode cL_ring 2 = .ok (.iconst 0, 1) := by decide +kernel
theorem dL_ring_3 : decode cL_ring 3 = .ok (.aload_n 0, 1) := by decide +kernel
theorem dL_ring_4 : decode cL_ring 4 = .ok (.iload_n 1, 1) := by decide +kernel
theorem dL_ring_5 : decode cL_ring 5 = .ok (.iload_n 2, 1) := by decide +kernel
theorem dL_ring_6 : decode cL_ring 6 = .ok (.iload_n 3, 1) := by decide +kernel
theorem dL_ring_7 : decode cL_ring 7 = .ok (.invokevirtual 58, 3) := by decide +kernel
theorem dL_ring_10 : decode cL_ring 10 = .ok (.i2l, 1) := by decide +kernel
theorem dL_ring_11 : decode cL_ring 11 = .ok (.lastore, 1) := by decide +kernel
theorem dL_ring_12 : decode cL_ring 12 = .ok (.goto 15, 3) := by decide +kernel
theorem dL_ring_15 : decode cL_ring 15 = .ok (.astore 5, 2) := by decide +kernel
theorem dL_ring_17 : decode cL_ring 17 = .ok (.iconst 1, 1) := by decide +kernel
theorem dL_ring_18 : decode cL_ring 18 = .ok (.ireturn, 1) := by decide +kernel
theorem dL_ring_19 : decode cL_ring 19 = .ok (.astore 5, 2) := by decide +kernel
theorem dL_ring_21 : decode cL_ring 21 = .ok (.iconst 2, 1) := by decide +kernel
theorem dL_ring_22 : decode cL_ring 22 = .ok (.ireturn, 1) := by decide +kernel
theorem dL_ring_23 : decode cL_ring 23 = .ok (.astore 5, 2) := by decide +kernel
theorem dL_ring_25 : decode cL_ring 25 = .ok (.iconst 3, 1) := by decide +kernel
theorem dL_ring_26 : decode cL_ring 26 = .ok (.ireturn, 1) := by decide +kernel
theorem dL_ring_27 : decode cL_ring 27 = .ok (.iconst 0, 1) := by decide +kernel
theorem dL_ring_28 : decode cL_ring 28 = .ok (.ireturn, 1) := by decide +kernel
theorem dL_would_0 : decode cL_would 0 = .ok (.aload 4, 2) := by decide +kernel
theorem dL_would_2 : decode cL_would 2 = .ok (.iconst 0, 1) := by decide +kernel
theorem dL_would_3 : decode cL_would 3 = .ok (.aload_n 0, 1) := by decide +kernel
theorem dL_would_4 : decode cL_would 4 = .ok (.iload_n 1, 1) := by decide +kernel
theorem dL_would_5 : decode cL_would 5 = .ok (.iload_n 2, 1) := by decide +kernel
theorem dL_would_6 : decode cL_would 6 = .ok (.iload_n 3, 1) := by decide +kernel
theorem dL_would_7 : decode cL_would 7 = .ok (.invokevirtual 61, 3) := by decide +kernel
theorem dL_would_10 : decode cL_would 10 = .ok (.i2l, 1) := by decide +kernel
theorem dL_would_11 : decode cL_would 11 = .ok (.lastore, 1) := by decide +kernel
theorem dL_would_12 : decode cL_would 12 = .ok (.goto 11, 3) := by decide +kernel
theorem dL_would_15 : decode cL_would 15 = .ok (.astore 5, 2) := by decide +kernel
theorem dL_would_17 : decode cL_would 17 = .ok (.iconst 1, 1) := by decide +kernel
theorem dL_would_18 : decode cL_would 18 = .ok (.ireturn, 1) := by decide +kernel
theorem dL_would_19 : decode cL_would 19 = .ok (.astore 5, 2) := by decide +kernel
theorem dL_would_21 : decode cL_would 21 = .ok (.iconst 2, 1) := by decide +kernel
theorem dL_would_22 : decode cL_would 22 = .ok (.ireturn, 1) := by decide +kernel
theorem dL_would_23 : decode cL_would 23 = .ok (.iconst 0, 1) := by decide +kernel
theorem dL_would_24 : decode cL_would 24 = .ok (.ireturn, 1) := by decide +kernel
theorem dL_advise_0 : decode cL_advise 0 = .ok (.aload_n 2, 1) := by decide +kernel
theorem dL_advise_1 : decode cL_advise 1 = .ok (.iconst 0, 1) := by decide +kernel
theorem dL_advise_2 : decode cL_advise 2 = .ok (.aload_n 0, 1) := by decide +kernel
theorem dL_advise_3 : decode cL_advise 3 = .ok (.iload_n 1, 1) := by decide +kernel
theorem dL_advise_4 : decode cL_advise 4 = .ok (.invokevirtual 64, 3) := by decide +kernel
theorem dL_advise_7 : decode cL_advise 7 = .ok (.i2l, 1) := by decide +kernel
theorem dL_advise_8 : decode cL_advise 8 = .ok (.lastore, 1) := by decide +kernel
theorem dL_advise_9 : decode cL_advise 9 = .ok (.goto 6, 3) := by decide +kernel
theorem dL_advise_12 : decode cL_advise 12 = .ok (.astore_n 3, 1) := by decide +kernel
theorem dL_advise_13 : decode cL_advise 13 = .ok (.iconst 1, 1) := by decide +kernel
theorem dL_advise_14 : decode cL_advise 14 = .ok (.ireturn, 1) := by decide +kernel
theorem dL_advise_15 : decode cL_advise 15 = .ok (.iconst 0, 1) := by decide +kernel
theorem dL_advise_16 : decode cL_advise 16 = .ok (.ireturn, 1) := by decide +kernel
theorem dL_count_0 : decode cL_count 0 = .ok (.aload_n 2, 1) := by decide +kernel
theorem dL_count_1 : decode cL_count 1 = .ok (.iconst 0, 1) := by decide +kernel
theorem dL_count_2 : decode cL_count 2 = .ok (.aload_n 0, 1) := by decide +kernel
theorem dL_count_3 : decode cL_count 3 = .ok (.iload_n 1, 1) := by decide +kernel
theorem dL_count_4 : decode cL_count 4 = .ok (.invokevirtual 67, 3) := by decide +kernel
theorem dL_count_7 : decode cL_count 7 = .ok (.i2l, 1) := by decide +kernel
theorem dL_count_8 : decode cL_count 8 = .ok (.lastore, 1) := by decide +kernel
theorem dL_count_9 : decode cL_count 9 = .ok (.goto 6, 3) := by decide +kernel
theorem dL_count_12 : decode cL_count 12 = .ok (.astore_n 3, 1) := by decide +kernel
theorem dL_count_13 : decode cL_count 13 = .ok (.iconst 1, 1) := by decide +kernel
theorem dL_count_14 : decode cL_count 14 = .ok (.ireturn, 1) := by decide +kernel
theorem dL_count_15 : decode cL_count 15 = .ok (.iconst 0, 1) := by decide +kernel
theorem dL_count_16 : decode cL_count 16 = .ok (.ireturn, 1) := by decide +kernel
theorem dL_pass_0 : decode cL_pass 0 = .ok (.aload_n 2, 1) := by decide +kernel
theorem dL_pass_1 : decode cL_pass 1 = .ok (.iconst 0, 1) := by decide +kernel
theorem dL_pass_2 : decode cL_pass 2 = .ok (.aload_n 0, 1) := by decide +kernel
theorem dL_pass_3 : decode cL_pass 3 = .ok (.iload_n 1, 1) := by decide +kernel
theorem dL_pass_4 : decode cL_pass 4 = .ok (.invokevirtual 70, 3) := by decide +kernel
theorem dL_pass_7 : decode cL_pass 7 = .ok (.i2l, 1) := by decide +kernel
theorem dL_pass_8 : decode cL_pass 8 = .ok (.lastore, 1) := by decide +kernel
theorem dL_pass_9 : decode cL_pass 9 = .ok (.goto 6, 3) := by decide +kernel
theorem dL_pass_12 : decode cL_pass 12 = .ok (.astore_n 3, 1) := by decide +kernel
theorem dL_pass_13 : decode cL_pass 13 = .ok (.iconst 1, 1) := by decide +kernel
theorem dL_pass_14 : decode cL_pass 14 = .ok (.ireturn, 1) := by decide +kernel
theorem dL_pass_15 : decode cL_pass 15 = .ok (.iconst 0, 1) := by decide +kernel
theorem dL_pass_16 : decode cL_pass 16 = .ok (.ireturn, 1) := by decide +kernel
theorem dL_foresee_0 : decode cL_foresee 0 = .ok (.aload 4, 2) := by decide +kernel
theorem dL_foresee_2 : decode cL_foresee 2 = .ok (.iconst 0, 1) := by decide +kernel
theorem dL_foresee_3 : decode cL_foresee 3 = .ok (.aload_n 0, 1) := by decide +kernel
theorem dL_foresee_4 : decode cL_foresee 4 = .ok (.iload_n 1, 1) := by decide +kernel
theorem dL_foresee_5 : decode cL_foresee 5 = .ok (.iload_n 2, 1) := by decide +kernel
theorem dL_foresee_6 : decode cL_foresee 6 = .ok (.iload_n 3, 1) := by decide +kernel
theorem dL_foresee_7 : decode cL_foresee 7 = .ok (.invokevirtual 73, 3) := by decide +kernel
theorem dL_foresee_10 : decode cL_foresee 10 = .ok (.i2l, 1) := by decide +kernel
theorem dL_foresee_11 : decode cL_foresee 11 = .ok (.lastore, 1) := by decide +kernel
theorem dL_foresee_12 : decode cL_foresee 12 = .ok (.goto 11, 3) := by decide +kernel
theorem dL_foresee_15 : decode cL_foresee 15 = .ok (.astore 5, 2) := by decide +kernel
theorem dL_foresee_17 : decode cL_foresee 17 = .ok (.iconst 1, 1) := by decide +kernel
theorem dL_foresee_18 : decode cL_foresee 18 = .ok (.ireturn, 1) := by decide +kernel
theorem dL_foresee_19 : decode cL_foresee 19 = .ok (.astore 5, 2) := by decide +kernel
theorem dL_foresee_21 : decode cL_foresee 21 = .ok (.iconst 2, 1) := by decide +kernel
theorem dL_foresee_22 : decode cL_foresee 22 = .ok (.ireturn, 1) := by decide +kernel
theorem dL_foresee_23 : decode cL_foresee 23 = .ok (.iconst 0, 1) := by decide +kernel
theorem dL_foresee_24 : decode cL_foresee 24 = .ok (.ireturn, 1) := by decide +kernel
theorem dL_law_0 : decode cL_law 0 = .ok (.new 8, 3) := by decide +kernel
theorem dL_law_3 : decode cL_law 3 = .ok (.dup, 1) := by decide +kernel
theorem dL_law_4 : decode cL_law 4 = .ok (.invokespecial 76, 3) := by decide +kernel
theorem dL_law_7 : decode cL_law 7 = .ok (.astore_n 1, 1) := by decide +kernel
theorem dL_law_8 : decode cL_law 8 = .ok (.new 77, 3) := by decide +kernel
theorem dL_law_11 : decode cL_law 11 = .ok (.dup, 1) := by decide +kernel
theorem dL_law_12 : decode cL_law 12 = .ok (.invokespecial 79, 3) := by decide +kernel
theorem dL_law_15 : decode cL_law 15 = .ok (.astore_n 2, 1) := by decide +kernel
theorem dL_law_16 : decode cL_law 16 = .ok (.iconst 1, 1) := by decide +kernel
theorem dL_law_17 : decode cL_law 17 = .ok (.newarray .long, 2) := by decide +kernel
theorem dL_law_19 : decode cL_law 19 = .ok (.astore_n 3, 1) := by decide +kernel
theorem dL_law_20 : decode cL_law 20 = .ok (.iconst 0, 1) := by decide +kernel
theorem dL_law_21 : decode cL_law 21 = .ok (.istore 4, 2) := by decide +kernel
theorem dL_law_23 : decode cL_law 23 = .ok (.iload 4, 2) := by decide +kernel
theorem dL_law_25 : decode cL_law 25 = .ok (.aload_n 0, 1) := by decide +kernel
theorem dL_law_26 : decode cL_law 26 = .ok (.arraylength, 1) := by decide +kernel
theorem dL_law_27 : decode cL_law 27 = .ok (.iconst 4, 1) := by decide +kernel
theorem dL_law_28 : decode cL_law 28 = .ok (.isub, 1) := by decide +kernel
theorem dL_law_29 : decode cL_law 29 = .ok (.if_icmp .gt 1460, 3) := by decide +kernel
theorem dL_law_32 : decode cL_law 32 = .ok (.aload_n 0, 1) := by decide +kernel
theorem dL_law_33 : decode cL_law 33 = .ok (.iload 4, 2) := by decide +kernel
theorem dL_law_35 : decode cL_law 35 = .ok (.iaload, 1) := by decide +kernel
theorem dL_law_36 : decode cL_law 36 = .ok (.bipush 31, 2) := by decide +kernel
theorem dL_law_38 : decode cL_law 38 = .ok (.iand, 1) := by decide +kernel
theorem dL_law_39 : decode cL_law 39 = .ok (.tableswitch 1444 0 20 #[97, 177, 245, 325, 381, 461, 517, 585, 665, 709, 777, 845, 913, 981, 1061, 1141, 1197, 1253, 1309, 1389, 1430], 97) := by decide +kernel
theorem dL_law_136 : decode cL_law 136 = .ok (.aload_n 1, 1) := by decide +kernel
theorem dL_law_137 : decode cL_law 137 = .ok (.aload_n 0, 1) := by decide +kernel
theorem dL_law_138 : decode cL_law 138 = .ok (.iload 4, 2) := by decide +kernel
theorem dL_law_140 : decode cL_law 140 = .ok (.iconst 1, 1) := by decide +kernel
theorem dL_law_141 : decode cL_law 141 = .ok (.iadd, 1) := by decide +kernel
theorem dL_law_142 : decode cL_law 142 = .ok (.iaload, 1) := by decide +kernel
theorem dL_law_143 : decode cL_law 143 = .ok (.aload_n 0, 1) := by decide +kernel
theorem dL_law_144 : decode cL_law 144 = .ok (.iload 4, 2) := by decide +kernel
theorem dL_law_146 : decode cL_law 146 = .ok (.iconst 2, 1) := by decide +kernel
theorem dL_law_147 : decode cL_law 147 = .ok (.iadd, 1) := by decide +kernel
theorem dL_law_148 : decode cL_law 148 = .ok (.iaload, 1) := by decide +kernel
theorem dL_law_149 : decode cL_law 149 = .ok (.aload_n 0, 1) := by decide +kernel
theorem dL_law_150 : decode cL_law 150 = .ok (.iload 4, 2) := by decide +kernel
theorem dL_law_152 : decode cL_law 152 = .ok (.iconst 3, 1) := by decide +kernel
theorem dL_law_153 : decode cL_law 153 = .ok (.iadd, 1) := by decide +kernel
theorem dL_law_154 : decode cL_law 154 = .ok (.iaload, 1) := by decide +kernel
theorem dL_law_155 : decode cL_law 155 = .ok (.aload_n 3, 1) := by decide +kernel
theorem dL_law_156 : decode cL_law 156 = .ok (.invokestatic 80, 3) := by decide +kernel
theorem dL_law_159 : decode cL_law 159 = .ok (.istore 5, 2) := by decide +kernel
theorem dL_law_161 : decode cL_law 161 = .ok (.aload_n 2, 1) := by decide +kernel
theorem dL_law_162 : decode cL_law 162 = .ok (.aload_n 0, 1) := by decide +kernel
theorem dL_law_163 : decode cL_law 163 = .ok (.iload 4, 2) := by decide +kernel
theorem dL_law_165 : decode cL_law 165 = .ok (.iconst 1, 1) := by decide +kernel
theorem dL_law_166 : decode cL_law 166 = .ok (.iadd, 1) := by decide +kernel
theorem dL_law_167 : decode cL_law 167 = .ok (.iaload, 1) := by decide +kernel
theorem dL_law_168 : decode cL_law 168 = .ok (.aload_n 0, 1) := by decide +kernel
theorem dL_law_169 : decode cL_law 169 = .ok (.iload 4, 2) := by decide +kernel
theorem dL_law_171 : decode cL_law 171 = .ok (.iconst 2, 1) := by decide +kernel
theorem dL_law_172 : decode cL_law 172 = .ok (.iadd, 1) := by decide +kernel
theorem dL_law_173 : decode cL_law 173 = .ok (.iaload, 1) := by decide +kernel
theorem dL_law_174 : decode cL_law 174 = .ok (.aload_n 0, 1) := by decide +kernel
theorem dL_law_175 : decode cL_law 175 = .ok (.iload 4, 2) := by decide +kernel
theorem dL_law_177 : decode cL_law 177 = .ok (.iconst 3, 1) := by decide +kernel
theorem dL_law_178 : decode cL_law 178 = .ok (.iadd, 1) := by decide +kernel
theorem dL_law_179 : decode cL_law 179 = .ok (.iaload, 1) := by decide +kernel
theorem dL_law_180 : decode cL_law 180 = .ok (.invokevirtual 85, 3) := by decide +kernel
theorem dL_law_183 : decode cL_law 183 = .ok (.istore 6, 2) := by decide +kernel
theorem dL_law_185 : decode cL_law 185 = .ok (.aload_n 2, 1) := by decide +kernel
theorem dL_law_186 : decode cL_law 186 = .ok (.invokevirtual 86, 3) := by decide +kernel
theorem dL_law_189 : decode cL_law 189 = .ok (.iload 5, 2) := by decide +kernel
theorem dL_law_191 : decode cL_law 191 = .ok (.if_icmp .eq 5, 3) := by decide +kernel
theorem dL_law_194 : decode cL_law 194 = .ok (.iconst 0, 1) := by decide +kernel
theorem dL_law_195 : decode cL_law 195 = .ok (.ireturn, 1) := by decide +kernel
theorem dL_law_196 : decode cL_law 196 = .ok (.iload 5, 2) := by decide +kernel
theorem dL_law_198 : decode cL_law 198 = .ok (.ifCond .ne 15, 3) := by decide +kernel
theorem dL_law_201 : decode cL_law 201 = .ok (.aload_n 3, 1) := by decide +kernel
theorem dL_law_202 : decode cL_law 202 = .ok (.iconst 0, 1) := by decide +kernel
theorem dL_law_203 : decode cL_law 203 = .ok (.laload, 1) := by decide +kernel
theorem dL_law_204 : decode cL_law 204 = .ok (.iload 6, 2) := by decide +kernel
theorem dL_law_206 : decode cL_law 206 = .ok (.i2l, 1) := by decide +kernel
theorem dL_law_207 : decode cL_law 207 = .ok (.lcmp, 1) := by decide +kernel
theorem dL_law_208 : decode cL_law 208 = .ok (.ifCond .eq 5, 3) := by decide +kernel
theorem dL_law_211 : decode cL_law 211 = .ok (.iconst 0, 1) := by decide +kernel
theorem dL_law_212 : decode cL_law 212 = .ok (.ireturn, 1) := by decide +kernel
theorem dL_law_213 : decode cL_law 213 = .ok (.goto 1270, 3) := by decide +kernel
theorem dL_law_216 : decode cL_law 216 = .ok (.aload_n 1, 1) := by decide +kernel
theorem dL_law_217 : decode cL_law 217 = .ok (.aload_n 0, 1) := by decide +kernel
theorem dL_law_218 : decode cL_law 218 = .ok (.iload 4, 2) := by decide +kernel
theorem dL_law_220 : decode cL_law 220 = .ok (.iconst 1, 1) := by decide +kernel
theorem dL_law_221 : decode cL_law 221 = .ok (.iadd, 1) := by decide +kernel
theorem dL_law_222 : decode cL_law 222 = .ok (.iaload, 1) := by decide +kernel
theorem dL_law_223 : decode cL_law 223 = .ok (.aload_n 0, 1) := by decide +kernel
theorem dL_law_224 : decode cL_law 224 = .ok (.iload 4, 2) := by decide +kernel
theorem dL_law_226 : decode cL_law 226 = .ok (.iconst 2, 1) := by decide +kernel
theorem dL_law_227 : decode cL_law 227 = .ok (.iadd, 1) := by decide +kernel
theorem dL_law_228 : decode cL_law 228 = .ok (.iaload, 1) := by decide +kernel
theorem dL_law_229 : decode cL_law 229 = .ok (.aload_n 3, 1) := by decide +kernel
theorem dL_law_230 : decode cL_law 230 = .ok (.invokestatic 89, 3) := by decide +kernel
theorem dL_law_233 : decode cL_law 233 = .ok (.istore 5, 2) := by decide +kernel
theorem dL_law_235 : decode cL_law 235 = .ok (.aload_n 2, 1) := by decide +kernel
theorem dL_law_236 : decode cL_law 236 = .ok (.aload_n 0, 1) := by decide +kernel
theorem dL_law_237 : decode cL_law 237 = .ok (.iload 4, 2) := by decide +kernel
theorem dL_law_239 : decode cL_law 239 = .ok (.iconst 1, 1) := by decide +kernel
theorem dL_law_240 : decode cL_law 240 = .ok (.iadd, 1) := by decide +kernel
theorem dL_law_241 : decode cL_law 241 = .ok (.iaload, 1) := by decide +kernel
theorem dL_law_242 : decode cL_law 242 = .ok (.aload_n 0, 1) := by decide +kernel
theorem dL_law_243 : decode cL_law 243 = .ok (.iload 4, 2) := by decide +kernel
theorem dL_law_245 : decode cL_law 245 = .ok (.iconst 2, 1) := by decide +kernel
theorem dL_law_246 : decode cL_law 246 = .ok (.iadd, 1) := by decide +kernel
theorem dL_law_247 : decode cL_law 247 = .ok (.iaload, 1) := by decide +kernel
theorem dL_law_248 : decode cL_law 248 = .ok (.invokevirtual 92, 3) := by decide +kernel
theorem dL_law_251 : decode cL_law 251 = .ok (.istore 6, 2) := by decide +kernel
theorem dL_law_253 : decode cL_law 253 = .ok (.aload_n 2, 1) := by decide +kernel
theorem dL_law_254 : decode cL_law 254 = .ok (.invokevirtual 86, 3) := by decide +kernel
theorem dL_law_257 : decode cL_law 257 = .ok (.iload 5, 2) := by decide +kernel
theorem dL_law_259 : decode cL_law 259 = .ok (.if_icmp .eq 5, 3) := by decide +kernel
theorem dL_law_262 : decode cL_law 262 = .ok (.iconst 0, 1) := by decide +kernel
theorem dL_law_263 : decode cL_law 263 = .ok (.ireturn, 1) := by decide +kernel
theorem dL_law_264 : decode cL_law 264 = .ok (.iload 5, 2) := by decide +kernel
theorem dL_law_266 : decode cL_law 266 = .ok (.ifCond .ne 15, 3) := by decide +kernel
theorem dL_law_269 : decode cL_law 269 = .ok (.aload_n 3, 1) := by decide +kernel
theorem dL_law_270 : decode cL_law 270 = .ok (.iconst 0, 1) := by decide +kernel
theorem dL_law_271 : decode cL_law 271 = .ok (.laload, 1) := by decide +kernel
theorem dL_law_272 : decode cL_law 272 = .ok (.iload 6, 2) := by decide +kernel
theorem dL_law_274 : decode cL_law 274 = .ok (.i2l, 1) := by decide +kernel
theorem dL_law_275 : decode cL_law 275 = .ok (.lcmp, 1) := by decide +kernel
theorem dL_law_276 : decode cL_law 276 = .ok (.ifCond .eq 5, 3) := by decide +kernel
theorem dL_law_279 : decode cL_law 279 = .ok (.iconst 0, 1) := by decide +kernel
theorem dL_law_280 : decode cL_law 280 = .ok (.ireturn, 1) := by decide +kernel
theorem dL_law_281 : decode cL_law 281 = .ok (.goto 1202, 3) := by decide +kernel
theorem dL_law_284 : decode cL_law 284 = .ok (.aload_n 1, 1) := by decide +kernel
theorem dL_law_285 : decode cL_law 285 = .ok (.aload_n 0, 1) := by decide +kernel
theorem dL_law_286 : decode cL_law 286 = .ok (.iload 4, 2) := by decide +kernel
theorem dL_law_288 : decode cL_law 288 = .ok (.iconst 1, 1) := by decide +kernel
theorem dL_law_289 : decode cL_law 289 = .ok (.iadd, 1) := by decide +kernel
theorem dL_law_290 : decode cL_law 290 = .ok (.iaload, 1) := by decide +kernel
theorem dL_law_291 : decode cL_law 291 = .ok (.aload_n 0, 1) := by decide +kernel
theorem dL_law_292 : decode cL_law 292 = .ok (.iload 4, 2) := by decide +kernel
theorem dL_law_294 : decode cL_law 294 = .ok (.iconst 2, 1) := by decide +kernel
theorem dL_law_295 : decode cL_law 295 = .ok (.iadd, 1) := by decide +kernel
theorem dL_law_296 : decode cL_law 296 = .ok (.iaload, 1) := by decide +kernel
theorem dL_law_297 : decode cL_law 297 = .ok (.aload_n 0, 1) := by decide +kernel
theorem dL_law_298 : decode cL_law 298 = .ok (.iload 4, 2) := by decide +kernel
theorem dL_law_300 : decode cL_law 300 = .ok (.iconst 3, 1) := by decide +kernel
theorem dL_law_301 : decode cL_law 301 = .ok (.iadd, 1) := by decide +kernel
theorem dL_law_302 : decode cL_law 302 = .ok (.iaload, 1) := by decide +kernel
theorem dL_law_303 : decode cL_law 303 = .ok (.aload_n 3, 1) := by decide +kernel
theorem dL_law_304 : decode cL_law 304 = .ok (.invokestatic 93, 3) := by decide +kernel
theorem dL_law_307 : decode cL_law 307 = .ok (.istore 5, 2) := by decide +kernel
theorem dL_law_309 : decode cL_law 309 = .ok (.aload_n 2, 1) := by decide +kernel
theorem dL_law_310 : decode cL_law 310 = .ok (.aload_n 0, 1) := by decide +kernel
theorem dL_law_311 : decode cL_law 311 = .ok (.iload 4, 2) := by decide +kernel
theorem dL_law_313 : decode cL_law 313 = .ok (.iconst 1, 1) := by decide +kernel
theorem dL_law_314 : decode cL_law 314 = .ok (.iadd, 1) := by decide +kernel
theorem dL_law_315 : decode cL_law 315 = .ok (.iaload, 1) := by decide +kernel
theorem dL_law_316 : decode cL_law 316 = .ok (.aload_n 0, 1) := by decide +kernel
theorem dL_law_317 : decode cL_law 317 = .ok (.iload 4, 2) := by decide +kernel
theorem dL_law_319 : decode cL_law 319 = .ok (.iconst 2, 1) := by decide +kernel
theorem dL_law_320 : decode cL_law 320 = .ok (.iadd, 1) := by decide +kernel
theorem dL_law_321 : decode cL_law 321 = .ok (.iaload, 1) := by decide +kernel
theorem dL_law_322 : decode cL_law 322 = .ok (.aload_n 0, 1) := by decide +kernel
theorem dL_law_323 : decode cL_law 323 = .ok (.iload 4, 2) := by decide +kernel
theorem dL_law_325 : decode cL_law 325 = .ok (.iconst 3, 1) := by decide +kernel
theorem dL_law_326 : decode cL_law 326 = .ok (.iadd, 1) := by decide +kernel
theorem dL_law_327 : decode cL_law 327 = .ok (.iaload, 1) := by decide +kernel
theorem dL_law_328 : decode cL_law 328 = .ok (.invokevirtual 95, 3) := by decide +kernel
theorem dL_law_331 : decode cL_law 331 = .ok (.istore 6, 2) := by decide +kernel
theorem dL_law_333 : decode cL_law 333 = .ok (.aload_n 2, 1) := by decide +kernel
theorem dL_law_334 : decode cL_law 334 = .ok (.invokevirtual 86, 3) := by decide +kernel
theorem dL_law_337 : decode cL_law 337 = .ok (.iload 5, 2) := by decide +kernel
theorem dL_law_339 : decode cL_law 339 = .ok (.if_icmp .eq 5, 3) := by decide +kernel
theorem dL_law_342 : decode cL_law 342 = .ok (.iconst 0, 1) := by decide +kernel
theorem dL_law_343 : decode cL_law 343 = .ok (.ireturn, 1) := by decide +kernel
theorem dL_law_344 : decode cL_law 344 = .ok (.iload 5, 2) := by decide +kernel
theorem dL_law_346 : decode cL_law 346 = .ok (.ifCond .ne 15, 3) := by decide +kernel
theorem dL_law_349 : decode cL_law 349 = .ok (.aload_n 3, 1) := by decide +kernel
theorem dL_law_350 : decode cL_law 350 = .ok (.iconst 0, 1) := by decide +kernel
theorem dL_law_351 : decode cL_law 351 = .ok (.laload, 1) := by decide +kernel
theorem dL_law_352 : decode cL_law 352 = .ok (.iload 6, 2) := by decide +kernel
theorem dL_law_354 : decode cL_law 354 = .ok (.i2l, 1) := by decide +kernel
theorem dL_law_355 : decode cL_law 355 = .ok (.lcmp, 1) := by decide +kernel
theorem dL_law_356 : decode cL_law 356 = .ok (.ifCond .eq 5, 3) := by decide +kernel
theorem dL_law_359 : decode cL_law 359 = .ok (.iconst 0, 1) := by decide +kernel
theorem dL_law_360 : decode cL_law 360 = .ok (.ireturn, 1) := by decide +kernel
theorem dL_law_361 : decode cL_law 361 = .ok (.goto 1122, 3) := by decide +kernel
theorem dL_law_364 : decode cL_law 364 = .ok (.aload_n 1, 1) := by decide +kernel
theorem dL_law_365 : decode cL_law 365 = .ok (.aload_n 0, 1) := by decide +kernel
theorem dL_law_366 : decode cL_law 366 = .ok (.iload 4, 2) := by decide +kernel
theorem dL_law_368 : decode cL_law 368 = .ok (.iconst 1, 1) := by decide +kernel
theorem dL_law_369 : decode cL_law 369 = .ok (.iadd, 1) := by decide +kernel
theorem dL_law_370 : decode cL_law 370 = .ok (.iaload, 1) := by decide +kernel
theorem dL_law_371 : decode cL_law 371 = .ok (.aload_n 3, 1) := by decide +kernel
theorem dL_law_372 : decode cL_law 372 = .ok (.invokestatic 96, 3) := by decide +kernel
theorem dL_law_375 : decode cL_law 375 = .ok (.istore 5, 2) := by decide +kernel
theorem dL_law_377 : decode cL_law 377 = .ok (.aload_n 2, 1) := by decide +kernel
theorem dL_law_378 : decode cL_law 378 = .ok (.aload_n 0, 1) := by decide +kernel
theorem dL_law_379 : decode cL_law 379 = .ok (.iload 4, 2) := by decide +kernel
theorem dL_law_381 : decode cL_law 381 = .ok (.iconst 1, 1) := by decide +kernel
theorem dL_law_382 : decode cL_law 382 = .ok (.iadd, 1) := by decide +kernel
theorem dL_law_383 : decode cL_law 383 = .ok (.iaload, 1) := by decide +kernel
theorem dL_law_384 : decode cL_law 384 = .ok (.invokevirtual 99, 3) := by decide +kernel
theorem dL_law_387 : decode cL_law 387 = .ok (.istore 6, 2) := by decide +kernel
theorem dL_law_389 : decode cL_law 389 = .ok (.aload_n 2, 1) := by decide +kernel
theorem dL_law_390 : decode cL_law 390 = .ok (.invokevirtual 86, 3) := by decide +kernel
theorem dL_law_393 : decode cL_law 393 = .ok (.iload 5, 2) := by decide +kernel
theorem dL_law_395 : decode cL_law 395 = .ok (.if_icmp .eq 5, 3) := by decide +kernel
theorem dL_law_398 : decode cL_law 398 = .ok (.iconst 0, 1) := by decide +kernel
theorem dL_law_399 : decode cL_law 399 = .ok (.ireturn, 1) := by decide +kernel
theorem dL_law_400 : decode cL_law 400 = .ok (.iload 5, 2) := by decide +kernel
theorem dL_law_402 : decode cL_law 402 = .ok (.ifCond .ne 15, 3) := by decide +kernel
theorem dL_law_405 : decode cL_law 405 = .ok (.aload_n 3, 1) := by decide +kernel
theorem dL_law_406 : decode cL_law 406 = .ok (.iconst 0, 1) := by decide +kernel
theorem dL_law_407 : decode cL_law 407 = .ok (.laload, 1) := by decide +kernel
theorem dL_law_408 : decode cL_law 408 = .ok (.iload 6, 2) := by decide +kernel
theorem dL_law_410 : decode cL_law 410 = .ok (.i2l, 1) := by decide +kernel
theorem dL_law_411 : decode cL_law 411 = .ok (.lcmp, 1) := by decide +kernel
theorem dL_law_412 : decode cL_law 412 = .ok (.ifCond .eq 5, 3) := by decide +kernel
theorem dL_law_415 : decode cL_law 415 = .ok (.iconst 0, 1) := by decide +kernel
theorem dL_law_416 : decode cL_law 416 = .ok (.ireturn, 1) := by decide +kernel
theorem dL_law_417 : decode cL_law 417 = .ok (.goto 1066, 3) := by decide +kernel
theorem dL_law_420 : decode cL_law 420 = .ok (.aload_n 1, 1) := by decide +kernel
theorem dL_law_421 : decode cL_law 421 = .ok (.aload_n 0, 1) := by decide +kernel
theorem dL_law_422 : decode cL_law 422 = .ok (.iload 4, 2) := by decide +kernel
theorem dL_law_424 : decode cL_law 424 = .ok (.iconst 1, 1) := by decide +kernel
theorem dL_law_425 : decode cL_law 425 = .ok (.iadd, 1) := by decide +kernel
theorem dL_law_426 : decode cL_law 426 = .ok (.iaload, 1) := by decide +kernel
theorem dL_law_427 : decode cL_law 427 = .ok (.aload_n 0, 1) := by decide +kernel
theorem dL_law_428 : decode cL_law 428 = .ok (.iload 4, 2) := by decide +kernel
theorem dL_law_430 : decode cL_law 430 = .ok (.iconst 2, 1) := by decide +kernel
theorem dL_law_431 : decode cL_law 431 = .ok (.iadd, 1) := by decide +kernel
theorem dL_law_432 : decode cL_law 432 = .ok (.iaload, 1) := by decide +kernel
theorem dL_law_433 : decode cL_law 433 = .ok (.aload_n 0, 1) := by decide +kernel
theorem dL_law_434 : decode cL_law 434 = .ok (.iload 4, 2) := by decide +kernel
theorem dL_law_436 : decode cL_law 436 = .ok (.iconst 3, 1) := by decide +kernel
theorem dL_law_437 : decode cL_law 437 = .ok (.iadd, 1) := by decide +kernel
theorem dL_law_438 : decode cL_law 438 = .ok (.iaload, 1) := by decide +kernel
theorem dL_law_439 : decode cL_law 439 = .ok (.aload_n 3, 1) := by decide +kernel
theorem dL_law_440 : decode cL_law 440 = .ok (.invokestatic 100, 3) := by decide +kernel
theorem dL_law_443 : decode cL_law 443 = .ok (.istore 5, 2) := by decide +kernel
theorem dL_law_445 : decode cL_law 445 = .ok (.aload_n 2, 1) := by decide +kernel
theorem dL_law_446 : decode cL_law 446 = .ok (.aload_n 0, 1) := by decide +kernel
theorem dL_law_447 : decode cL_law 447 = .ok (.iload 4, 2) := by decide +kernel
theorem dL_law_449 : decode cL_law 449 = .ok (.iconst 1, 1) := by decide +kernel
theorem dL_law_450 : decode cL_law 450 = .ok (.iadd, 1) := by decide +kernel
theorem dL_law_451 : decode cL_law 451 = .ok (.iaload, 1) := by decide +kernel
theorem dL_law_452 : decode cL_law 452 = .ok (.aload_n 0, 1) := by decide +kernel
theorem dL_law_453 : decode cL_law 453 = .ok (.iload 4, 2) := by decide +kernel
theorem dL_law_455 : decode cL_law 455 = .ok (.iconst 2, 1) := by decide +kernel
theorem dL_law_456 : decode cL_law 456 = .ok (.iadd, 1) := by decide +kernel
theorem dL_law_457 : decode cL_law 457 = .ok (.iaload, 1) := by decide +kernel
theorem dL_law_458 : decode cL_law 458 = .ok (.aload_n 0, 1) := by decide +kernel
theorem dL_law_459 : decode cL_law 459 = .ok (.iload 4, 2) := by decide +kernel
theorem dL_law_461 : decode cL_law 461 = .ok (.iconst 3, 1) := by decide +kernel
theorem dL_law_462 : decode cL_law 462 = .ok (.iadd, 1) := by decide +kernel
theorem dL_law_463 : decode cL_law 463 = .ok (.iaload, 1) := by decide +kernel
theorem dL_law_464 : decode cL_law 464 = .ok (.invokevirtual 102, 3) := by decide +kernel
theorem dL_law_467 : decode cL_law 467 = .ok (.istore 6, 2) := by decide +kernel
theorem dL_law_469 : decode cL_law 469 = .ok (.aload_n 2, 1) := by decide +kernel
theorem dL_law_470 : decode cL_law 470 = .ok (.invokevirtual 86, 3) := by decide +kernel
theorem dL_law_473 : decode cL_law 473 = .ok (.iload 5, 2) := by decide +kernel
theorem dL_law_475 : decode cL_law 475 = .ok (.if_icmp .eq 5, 3) := by decide +kernel
theorem dL_law_478 : decode cL_law 478 = .ok (.iconst 0, 1) := by decide +kernel
theorem dL_law_479 : decode cL_law 479 = .ok (.ireturn, 1) := by decide +kernel
theorem dL_law_480 : decode cL_law 480 = .ok (.iload 5, 2) := by decide +kernel
theorem dL_law_482 : decode cL_law 482 = .ok (.ifCond .ne 15, 3) := by decide +kernel
theorem dL_law_485 : decode cL_law 485 = .ok (.aload_n 3, 1) := by decide +kernel
theorem dL_law_486 : decode cL_law 486 = .ok (.iconst 0, 1) := by decide +kernel
theorem dL_law_487 : decode cL_law 487 = .ok (.laload, 1) := by decide +kernel
theorem dL_law_488 : decode cL_law 488 = .ok (.iload 6, 2) := by decide +kernel
theorem dL_law_490 : decode cL_law 490 = .ok (.i2l, 1) := by decide +kernel
theorem dL_law_491 : decode cL_law 491 = .ok (.lcmp, 1) := by decide +kernel
theorem dL_law_492 : decode cL_law 492 = .ok (.ifCond .eq 5, 3) := by decide +kernel
theorem dL_law_495 : decode cL_law 495 = .ok (.iconst 0, 1) := by decide +kernel
theorem dL_law_496 : decode cL_law 496 = .ok (.ireturn, 1) := by decide +kernel
theorem dL_law_497 : decode cL_law 497 = .ok (.goto 986, 3) := by decide +kernel
theorem dL_law_500 : decode cL_law 500 = .ok (.aload_n 1, 1) := by decide +kernel
theorem dL_law_501 : decode cL_law 501 = .ok (.aload_n 0, 1) := by decide +kernel
theorem dL_law_502 : decode cL_law 502 = .ok (.iload 4, 2) := by decide +kernel
theorem dL_law_504 : decode cL_law 504 = .ok (.iconst 1, 1) := by decide +kernel
theorem dL_law_505 : decode cL_law 505 = .ok (.iadd, 1) := by decide +kernel
theorem dL_law_506 : decode cL_law 506 = .ok (.iaload, 1) := by decide +kernel
theorem dL_law_507 : decode cL_law 507 = .ok (.aload_n 3, 1) := by decide +kernel
theorem dL_law_508 : decode cL_law 508 = .ok (.invokestatic 103, 3) := by decide +kernel
theorem dL_law_511 : decode cL_law 511 = .ok (.istore 5, 2) := by decide +kernel
theorem dL_law_513 : decode cL_law 513 = .ok (.aload_n 2, 1) := by decide +kernel
theorem dL_law_514 : decode cL_law 514 = .ok (.aload_n 0, 1) := by decide +kernel
theorem dL_law_515 : decode cL_law 515 = .ok (.iload 4, 2) := by decide +kernel
theorem dL_law_517 : decode cL_law 517 = .ok (.iconst 1, 1) := by decide +kernel
theorem dL_law_518 : decode cL_law 518 = .ok (.iadd, 1) := by decide +kernel
theorem dL_law_519 : decode cL_law 519 = .ok (.iaload, 1) := by decide +kernel
theorem dL_law_520 : decode cL_law 520 = .ok (.invokevirtual 105, 3) := by decide +kernel
theorem dL_law_523 : decode cL_law 523 = .ok (.istore 6, 2) := by decide +kernel
theorem dL_law_525 : decode cL_law 525 = .ok (.aload_n 2, 1) := by decide +kernel
theorem dL_law_526 : decode cL_law 526 = .ok (.invokevirtual 86, 3) := by decide +kernel
theorem dL_law_529 : decode cL_law 529 = .ok (.iload 5, 2) := by decide +kernel
theorem dL_law_531 : decode cL_law 531 = .ok (.if_icmp .eq 5, 3) := by decide +kernel
theorem dL_law_534 : decode cL_law 534 = .ok (.iconst 0, 1) := by decide +kernel
theorem dL_law_535 : decode cL_law 535 = .ok (.ireturn, 1) := by decide +kernel
theorem dL_law_536 : decode cL_law 536 = .ok (.iload 5, 2) := by decide +kernel
theorem dL_law_538 : decode cL_law 538 = .ok (.ifCond .ne 15, 3) := by decide +kernel
theorem dL_law_541 : decode cL_law 541 = .ok (.aload_n 3, 1) := by decide +kernel
theorem dL_law_542 : decode cL_law 542 = .ok (.iconst 0, 1) := by decide +kernel
theorem dL_law_543 : decode cL_law 543 = .ok (.laload, 1) := by decide +kernel
theorem dL_law_544 : decode cL_law 544 = .ok (.iload 6, 2) := by decide +kernel
theorem dL_law_546 : decode cL_law 546 = .ok (.i2l, 1) := by decide +kernel
theorem dL_law_547 : decode cL_law 547 = .ok (.lcmp, 1) := by decide +kernel
theorem dL_law_548 : decode cL_law 548 = .ok (.ifCond .eq 5, 3) := by decide +kernel
theorem dL_law_551 : decode cL_law 551 = .ok (.iconst 0, 1) := by decide +kernel
theorem dL_law_552 : decode cL_law 552 = .ok (.ireturn, 1) := by decide +kernel
theorem dL_law_553 : decode cL_law 553 = .ok (.goto 930, 3) := by decide +kernel
theorem dL_law_556 : decode cL_law 556 = .ok (.aload_n 1, 1) := by decide +kernel
theorem dL_law_557 : decode cL_law 557 = .ok (.aload_n 0, 1) := by decide +kernel
theorem dL_law_558 : decode cL_law 558 = .ok (.iload 4, 2) := by decide +kernel
theorem dL_law_560 : decode cL_law 560 = .ok (.iconst 1, 1) := by decide +kernel
theorem dL_law_561 : decode cL_law 561 = .ok (.iadd, 1) := by decide +kernel
theorem dL_law_562 : decode cL_law 562 = .ok (.iaload, 1) := by decide +kernel
theorem dL_law_563 : decode cL_law 563 = .ok (.aload_n 0, 1) := by decide +kernel
theorem dL_law_564 : decode cL_law 564 = .ok (.iload 4, 2) := by decide +kernel
theorem dL_law_566 : decode cL_law 566 = .ok (.iconst 2, 1) := by decide +kernel
theorem dL_law_567 : decode cL_law 567 = .ok (.iadd, 1) := by decide +kernel
theorem dL_law_568 : decode cL_law 568 = .ok (.iaload, 1) := by decide +kernel
theorem dL_law_569 : decode cL_law 569 = .ok (.aload_n 3, 1) := by decide +kernel
theorem dL_law_570 : decode cL_law 570 = .ok (.invokestatic 106, 3) := by decide +kernel
theorem dL_law_573 : decode cL_law 573 = .ok (.istore 5, 2) := by decide +kernel
theorem dL_law_575 : decode cL_law 575 = .ok (.aload_n 2, 1) := by decide +kernel
theorem dL_law_576 : decode cL_law 576 = .ok (.aload_n 0, 1) := by decide +kernel
theorem dL_law_577 : decode cL_law 577 = .ok (.iload 4, 2) := by decide +kernel
theorem dL_law_579 : decode cL_law 579 = .ok (.iconst 1, 1) := by decide +kernel
theorem dL_law_580 : decode cL_law 580 = .ok (.iadd, 1) := by decide +kernel
theorem dL_law_581 : decode cL_law 581 = .ok (.iaload, 1) := by decide +kernel
theorem dL_law_582 : decode cL_law 582 = .ok (.aload_n 0, 1) := by decide +kernel
theorem dL_law_583 : decode cL_law 583 = .ok (.iload 4, 2) := by decide +kernel
theorem dL_law_585 : decode cL_law 585 = .ok (.iconst 2, 1) := by decide +kernel
theorem dL_law_586 : decode cL_law 586 = .ok (.iadd, 1) := by decide +kernel
theorem dL_law_587 : decode cL_law 587 = .ok (.iaload, 1) := by decide +kernel
theorem dL_law_588 : decode cL_law 588 = .ok (.invokevirtual 108, 3) := by decide +kernel
theorem dL_law_591 : decode cL_law 591 = .ok (.istore 6, 2) := by decide +kernel
theorem dL_law_593 : decode cL_law 593 = .ok (.aload_n 2, 1) := by decide +kernel
theorem dL_law_594 : decode cL_law 594 = .ok (.invokevirtual 86, 3) := by decide +kernel
theorem dL_law_597 : decode cL_law 597 = .ok (.iload 5, 2) := by decide +kernel
theorem dL_law_599 : decode cL_law 599 = .ok (.if_icmp .eq 5, 3) := by decide +kernel
theorem dL_law_602 : decode cL_law 602 = .ok (.iconst 0, 1) := by decide +kernel
theorem dL_law_603 : decode cL_law 603 = .ok (.ireturn, 1) := by decide +kernel
theorem dL_law_604 : decode cL_law 604 = .ok (.iload 5, 2) := by decide +kernel
theorem dL_law_606 : decode cL_law 606 = .ok (.ifCond .ne 15, 3) := by decide +kernel
theorem dL_law_609 : decode cL_law 609 = .ok (.aload_n 3, 1) := by decide +kernel
theorem dL_law_610 : decode cL_law 610 = .ok (.iconst 0, 1) := by decide +kernel
theorem dL_law_611 : decode cL_law 611 = .ok (.laload, 1) := by decide +kernel
theorem dL_law_612 : decode cL_law 612 = .ok (.iload 6, 2) := by decide +kernel
theorem dL_law_614 : decode cL_law 614 = .ok (.i2l, 1) := by decide +kernel
theorem dL_law_615 : decode cL_law 615 = .ok (.lcmp, 1) := by decide +kernel
theorem dL_law_616 : decode cL_law 616 = .ok (.ifCond .eq 5, 3) := by decide +kernel
theorem dL_law_619 : decode cL_law 619 = .ok (.iconst 0, 1) := by decide +kernel
theorem dL_law_620 : decode cL_law 620 = .ok (.ireturn, 1) := by decide +kernel
theorem dL_law_621 : decode cL_law 621 = .ok (.goto 862, 3) := by decide +kernel
theorem dL_law_624 : decode cL_law 624 = .ok (.aload_n 1, 1) := by decide +kernel
theorem dL_law_625 : decode cL_law 625 = .ok (.aload_n 0, 1) := by decide +kernel
theorem dL_law_626 : decode cL_law 626 = .ok (.iload 4, 2) := by decide +kernel
theorem dL_law_628 : decode cL_law 628 = .ok (.iconst 1, 1) := by decide +kernel
theorem dL_law_629 : decode cL_law 629 = .ok (.iadd, 1) := by decide +kernel
theorem dL_law_630 : decode cL_law 630 = .ok (.iaload, 1) := by decide +kernel
theorem dL_law_631 : decode cL_law 631 = .ok (.aload_n 0, 1) := by decide +kernel
theorem dL_law_632 : decode cL_law 632 = .ok (.iload 4, 2) := by decide +kernel
theorem dL_law_634 : decode cL_law 634 = .ok (.iconst 2, 1) := by decide +kernel
theorem dL_law_635 : decode cL_law 635 = .ok (.iadd, 1) := by decide +kernel
theorem dL_law_636 : decode cL_law 636 = .ok (.iaload, 1) := by decide +kernel
theorem dL_law_637 : decode cL_law 637 = .ok (.aload_n 0, 1) := by decide +kernel
theorem dL_law_638 : decode cL_law 638 = .ok (.iload 4, 2) := by decide +kernel
theorem dL_law_640 : decode cL_law 640 = .ok (.iconst 3, 1) := by decide +kernel
theorem dL_law_641 : decode cL_law 641 = .ok (.iadd, 1) := by decide +kernel
theorem dL_law_642 : decode cL_law 642 = .ok (.iaload, 1) := by decide +kernel
theorem dL_law_643 : decode cL_law 643 = .ok (.aload_n 3, 1) := by decide +kernel
theorem dL_law_644 : decode cL_law 644 = .ok (.invokestatic 109, 3) := by decide +kernel
theorem dL_law_647 : decode cL_law 647 = .ok (.istore 5, 2) := by decide +kernel
theorem dL_law_649 : decode cL_law 649 = .ok (.aload_n 2, 1) := by decide +kernel
theorem dL_law_650 : decode cL_law 650 = .ok (.aload_n 0, 1) := by decide +kernel
theorem dL_law_651 : decode cL_law 651 = .ok (.iload 4, 2) := by decide +kernel
theorem dL_law_653 : decode cL_law 653 = .ok (.iconst 1, 1) := by decide +kernel
theorem dL_law_654 : decode cL_law 654 = .ok (.iadd, 1) := by decide +kernel
theorem dL_law_655 : decode cL_law 655 = .ok (.iaload, 1) := by decide +kernel
theorem dL_law_656 : decode cL_law 656 = .ok (.aload_n 0, 1) := by decide +kernel
theorem dL_law_657 : decode cL_law 657 = .ok (.iload 4, 2) := by decide +kernel
theorem dL_law_659 : decode cL_law 659 = .ok (.iconst 2, 1) := by decide +kernel
theorem dL_law_660 : decode cL_law 660 = .ok (.iadd, 1) := by decide +kernel
theorem dL_law_661 : decode cL_law 661 = .ok (.iaload, 1) := by decide +kernel
theorem dL_law_662 : decode cL_law 662 = .ok (.aload_n 0, 1) := by decide +kernel
theorem dL_law_663 : decode cL_law 663 = .ok (.iload 4, 2) := by decide +kernel
theorem dL_law_665 : decode cL_law 665 = .ok (.iconst 3, 1) := by decide +kernel
theorem dL_law_666 : decode cL_law 666 = .ok (.iadd, 1) := by decide +kernel
theorem dL_law_667 : decode cL_law 667 = .ok (.iaload, 1) := by decide +kernel
theorem dL_law_668 : decode cL_law 668 = .ok (.invokevirtual 111, 3) := by decide +kernel
theorem dL_law_671 : decode cL_law 671 = .ok (.istore 6, 2) := by decide +kernel
theorem dL_law_673 : decode cL_law 673 = .ok (.aload_n 2, 1) := by decide +kernel
theorem dL_law_674 : decode cL_law 674 = .ok (.invokevirtual 86, 3) := by decide +kernel
theorem dL_law_677 : decode cL_law 677 = .ok (.iload 5, 2) := by decide +kernel
theorem dL_law_679 : decode cL_law 679 = .ok (.if_icmp .eq 5, 3) := by decide +kernel
theorem dL_law_682 : decode cL_law 682 = .ok (.iconst 0, 1) := by decide +kernel
theorem dL_law_683 : decode cL_law 683 = .ok (.ireturn, 1) := by decide +kernel
theorem dL_law_684 : decode cL_law 684 = .ok (.iload 5, 2) := by decide +kernel
theorem dL_law_686 : decode cL_law 686 = .ok (.ifCond .ne 15, 3) := by decide +kernel
theorem dL_law_689 : decode cL_law 689 = .ok (.aload_n 3, 1) := by decide +kernel
theorem dL_law_690 : decode cL_law 690 = .ok (.iconst 0, 1) := by decide +kernel
theorem dL_law_691 : decode cL_law 691 = .ok (.laload, 1) := by decide +kernel
theorem dL_law_692 : decode cL_law 692 = .ok (.iload 6, 2) := by decide +kernel
theorem dL_law_694 : decode cL_law 694 = .ok (.i2l, 1) := by decide +kernel
theorem dL_law_695 : decode cL_law 695 = .ok (.lcmp, 1) := by decide +kernel
theorem dL_law_696 : decode cL_law 696 = .ok (.ifCond .eq 5, 3) := by decide +kernel
theorem dL_law_699 : decode cL_law 699 = .ok (.iconst 0, 1) := by decide +kernel
theorem dL_law_700 : decode cL_law 700 = .ok (.ireturn, 1) := by decide +kernel
theorem dL_law_701 : decode cL_law 701 = .ok (.goto 782, 3) := by decide +kernel
theorem dL_law_704 : decode cL_law 704 = .ok (.aload_n 1, 1) := by decide +kernel
theorem dL_law_705 : decode cL_law 705 = .ok (.aload_n 3, 1) := by decide +kernel
theorem dL_law_706 : decode cL_law 706 = .ok (.invokestatic 112, 3) := by decide +kernel
theorem dL_law_709 : decode cL_law 709 = .ok (.istore 5, 2) := by decide +kernel
theorem dL_law_711 : decode cL_law 711 = .ok (.aload_n 2, 1) := by decide +kernel
theorem dL_law_712 : decode cL_law 712 = .ok (.invokevirtual 115, 3) := by decide +kernel
theorem dL_law_715 : decode cL_law 715 = .ok (.istore 6, 2) := by decide +kernel
theorem dL_law_717 : decode cL_law 717 = .ok (.aload_n 2, 1) := by decide +kernel
theorem dL_law_718 : decode cL_law 718 = .ok (.invokevirtual 86, 3) := by decide +kernel
theorem dL_law_721 : decode cL_law 721 = .ok (.iload 5, 2) := by decide +kernel
theorem dL_law_723 : decode cL_law 723 = .ok (.if_icmp .eq 5, 3) := by decide +kernel
theorem dL_law_726 : decode cL_law 726 = .ok (.iconst 0, 1) := by decide +kernel
theorem dL_law_727 : decode cL_law 727 = .ok (.ireturn, 1) := by decide +kernel
theorem dL_law_728 : decode cL_law 728 = .ok (.iload 5, 2) := by decide +kernel
theorem dL_law_730 : decode cL_law 730 = .ok (.ifCond .ne 15, 3) := by decide +kernel
theorem dL_law_733 : decode cL_law 733 = .ok (.aload_n 3, 1) := by decide +kernel
theorem dL_law_734 : decode cL_law 734 = .ok (.iconst 0, 1) := by decide +kernel
theorem dL_law_735 : decode cL_law 735 = .ok (.laload, 1) := by decide +kernel
theorem dL_law_736 : decode cL_law 736 = .ok (.iload 6, 2) := by decide +kernel
theorem dL_law_738 : decode cL_law 738 = .ok (.i2l, 1) := by decide +kernel
theorem dL_law_739 : decode cL_law 739 = .ok (.lcmp, 1) := by decide +kernel
theorem dL_law_740 : decode cL_law 740 = .ok (.ifCond .eq 5, 3) := by decide +kernel
theorem dL_law_743 : decode cL_law 743 = .ok (.iconst 0, 1) := by decide +kernel
theorem dL_law_744 : decode cL_law 744 = .ok (.ireturn, 1) := by decide +kernel
theorem dL_law_745 : decode cL_law 745 = .ok (.goto 738, 3) := by decide +kernel
theorem dL_law_748 : decode cL_law 748 = .ok (.aload_n 1, 1) := by decide +kernel
theorem dL_law_749 : decode cL_law 749 = .ok (.aload_n 0, 1) := by decide +kernel
theorem dL_law_750 : decode cL_law 750 = .ok (.iload 4, 2) := by decide +kernel
theorem dL_law_752 : decode cL_law 752 = .ok (.iconst 1, 1) := by decide +kernel
theorem dL_law_753 : decode cL_law 753 = .ok (.iadd, 1) := by decide +kernel
theorem dL_law_754 : decode cL_law 754 = .ok (.iaload, 1) := by decide +kernel
theorem dL_law_755 : decode cL_law 755 = .ok (.aload_n 0, 1) := by decide +kernel
theorem dL_law_756 : decode cL_law 756 = .ok (.iload 4, 2) := by decide +kernel
theorem dL_law_758 : decode cL_law 758 = .ok (.iconst 2, 1) := by decide +kernel
theorem dL_law_759 : decode cL_law 759 = .ok (.iadd, 1) := by decide +kernel
theorem dL_law_760 : decode cL_law 760 = .ok (.iaload, 1) := by decide +kernel
theorem dL_law_761 : decode cL_law 761 = .ok (.aload_n 3, 1) := by decide +kernel
theorem dL_law_762 : decode cL_law 762 = .ok (.invokestatic 116, 3) := by decide +kernel
theorem dL_law_765 : decode cL_law 765 = .ok (.istore 5, 2) := by decide +kernel
theorem dL_law_767 : decode cL_law 767 = .ok (.aload_n 2, 1) := by decide +kernel
theorem dL_law_768 : decode cL_law 768 = .ok (.aload_n 0, 1) := by decide +kernel
theorem dL_law_769 : decode cL_law 769 = .ok (.iload 4, 2) := by decide +kernel
theorem dL_law_771 : decode cL_law 771 = .ok (.iconst 1, 1) := by decide +kernel
theorem dL_law_772 : decode cL_law 772 = .ok (.iadd, 1) := by decide +kernel
theorem dL_law_773 : decode cL_law 773 = .ok (.iaload, 1) := by decide +kernel
theorem dL_law_774 : decode cL_law 774 = .ok (.aload_n 0, 1) := by decide +kernel
theorem dL_law_775 : decode cL_law 775 = .ok (.iload 4, 2) := by decide +kernel
theorem dL_law_777 : decode cL_law 777 = .ok (.iconst 2, 1) := by decide +kernel
theorem dL_law_778 : decode cL_law 778 = .ok (.iadd, 1) := by decide +kernel
theorem dL_law_779 : decode cL_law 779 = .ok (.iaload, 1) := by decide +kernel
theorem dL_law_780 : decode cL_law 780 = .ok (.invokevirtual 118, 3) := by decide +kernel
theorem dL_law_783 : decode cL_law 783 = .ok (.istore 6, 2) := by decide +kernel
theorem dL_law_785 : decode cL_law 785 = .ok (.aload_n 2, 1) := by decide +kernel
theorem dL_law_786 : decode cL_law 786 = .ok (.invokevirtual 86, 3) := by decide +kernel
theorem dL_law_789 : decode cL_law 789 = .ok (.iload 5, 2) := by decide +kernel
theorem dL_law_791 : decode cL_law 791 = .ok (.if_icmp .eq 5, 3) := by decide +kernel
theorem dL_law_794 : decode cL_law 794 = .ok (.iconst 0, 1) := by decide +kernel
theorem dL_law_795 : decode cL_law 795 = .ok (.ireturn, 1) := by decide +kernel
theorem dL_law_796 : decode cL_law 796 = .ok (.iload 5, 2) := by decide +kernel
theorem dL_law_798 : decode cL_law 798 = .ok (.ifCond .ne 15, 3) := by decide +kernel
theorem dL_law_801 : decode cL_law 801 = .ok (.aload_n 3, 1) := by decide +kernel
theorem dL_law_802 : decode cL_law 802 = .ok (.iconst 0, 1) := by decide +kernel
theorem dL_law_803 : decode cL_law 803 = .ok (.laload, 1) := by decide +kernel
theorem dL_law_804 : decode cL_law 804 = .ok (.iload 6, 2) := by decide +kernel
theorem dL_law_806 : decode cL_law 806 = .ok (.i2l, 1) := by decide +kernel
theorem dL_law_807 : decode cL_law 807 = .ok (.lcmp, 1) := by decide +kernel
theorem dL_law_808 : decode cL_law 808 = .ok (.ifCond .eq 5, 3) := by decide +kernel
theorem dL_law_811 : decode cL_law 811 = .ok (.iconst 0, 1) := by decide +kernel
theorem dL_law_812 : decode cL_law 812 = .ok (.ireturn, 1) := by decide +kernel
theorem dL_law_813 : decode cL_law 813 = .ok (.goto 670, 3) := by decide +kernel
theorem dL_law_816 : decode cL_law 816 = .ok (.aload_n 1, 1) := by decide +kernel
theorem dL_law_817 : decode cL_law 817 = .ok (.aload_n 0, 1) := by decide +kernel
theorem dL_law_818 : decode cL_law 818 = .ok (.iload 4, 2) := by decide +kernel
theorem dL_law_820 : decode cL_law 820 = .ok (.iconst 1, 1) := by decide +kernel
theorem dL_law_821 : decode cL_law 821 = .ok (.iadd, 1) := by decide +kernel
theorem dL_law_822 : decode cL_law 822 = .ok (.iaload, 1) := by decide +kernel
theorem dL_law_823 : decode cL_law 823 = .ok (.aload_n 0, 1) := by decide +kernel
theorem dL_law_824 : decode cL_law 824 = .ok (.iload 4, 2) := by decide +kernel
theorem dL_law_826 : decode cL_law 826 = .ok (.iconst 2, 1) := by decide +kernel
theorem dL_law_827 : decode cL_law 827 = .ok (.iadd, 1) := by decide +kernel
theorem dL_law_828 : decode cL_law 828 = .ok (.iaload, 1) := by decide +kernel
theorem dL_law_829 : decode cL_law 829 = .ok (.aload_n 3, 1) := by decide +kernel
theorem dL_law_830 : decode cL_law 830 = .ok (.invokestatic 119, 3) := by decide +kernel
theorem dL_law_833 : decode cL_law 833 = .ok (.istore 5, 2) := by decide +kernel
theorem dL_law_835 : decode cL_law 835 = .ok (.aload_n 2, 1) := by decide +kernel
theorem dL_law_836 : decode cL_law 836 = .ok (.aload_n 0, 1) := by decide +kernel
theorem dL_law_837 : decode cL_law 837 = .ok (.iload 4, 2) := by decide +kernel
theorem dL_law_839 : decode cL_law 839 = .ok (.iconst 1, 1) := by decide +kernel
theorem dL_law_840 : decode cL_law 840 = .ok (.iadd, 1) := by decide +kernel
theorem dL_law_841 : decode cL_law 841 = .ok (.iaload, 1) := by decide +kernel
theorem dL_law_842 : decode cL_law 842 = .ok (.aload_n 0, 1) := by decide +kernel
theorem dL_law_843 : decode cL_law 843 = .ok (.iload 4, 2) := by decide +kernel
theorem dL_law_845 : decode cL_law 845 = .ok (.iconst 2, 1) := by decide +kernel
theorem dL_law_846 : decode cL_law 846 = .ok (.iadd, 1) := by decide +kernel
theorem dL_law_847 : decode cL_law 847 = .ok (.iaload, 1) := by decide +kernel
theorem dL_law_848 : decode cL_law 848 = .ok (.invokevirtual 121, 3) := by decide +kernel
theorem dL_law_851 : decode cL_law 851 = .ok (.istore 6, 2) := by decide +kernel
theorem dL_law_853 : decode cL_law 853 = .ok (.aload_n 2, 1) := by decide +kernel
theorem dL_law_854 : decode cL_law 854 = .ok (.invokevirtual 86, 3) := by decide +kernel
theorem dL_law_857 : decode cL_law 857 = .ok (.iload 5, 2) := by decide +kernel
theorem dL_law_859 : decode cL_law 859 = .ok (.if_icmp .eq 5, 3) := by decide +kernel
theorem dL_law_862 : decode cL_law 862 = .ok (.iconst 0, 1) := by decide +kernel
theorem dL_law_863 : decode cL_law 863 = .ok (.ireturn, 1) := by decide +kernel
theorem dL_law_864 : decode cL_law 864 = .ok (.iload 5, 2) := by decide +kernel
theorem dL_law_866 : decode cL_law 866 = .ok (.ifCond .ne 15, 3) := by decide +kernel
theorem dL_law_869 : decode cL_law 869 = .ok (.aload_n 3, 1) := by decide +kernel
theorem dL_law_870 : decode cL_law 870 = .ok (.iconst 0, 1) := by decide +kernel
theorem dL_law_871 : decode cL_law 871 = .ok (.laload, 1) := by decide +kernel
theorem dL_law_872 : decode cL_law 872 = .ok (.iload 6, 2) := by decide +kernel
theorem dL_law_874 : decode cL_law 874 = .ok (.i2l, 1) := by decide +kernel
theorem dL_law_875 : decode cL_law 875 = .ok (.lcmp, 1) := by decide +kernel
theorem dL_law_876 : decode cL_law 876 = .ok (.ifCond .eq 5, 3) := by decide +kernel
theorem dL_law_879 : decode cL_law 879 = .ok (.iconst 0, 1) := by decide +kernel
theorem dL_law_880 : decode cL_law 880 = .ok (.ireturn, 1) := by decide +kernel
theorem dL_law_881 : decode cL_law 881 = .ok (.goto 602, 3) := by decide +kernel
theorem dL_law_884 : decode cL_law 884 = .ok (.aload_n 1, 1) := by decide +kernel
theorem dL_law_885 : decode cL_law 885 = .ok (.aload_n 0, 1) := by decide +kernel
theorem dL_law_886 : decode cL_law 886 = .ok (.iload 4, 2) := by decide +kernel
theorem dL_law_888 : decode cL_law 888 = .ok (.iconst 1, 1) := by decide +kernel
theorem dL_law_889 : decode cL_law 889 = .ok (.iadd, 1) := by decide +kernel
theorem dL_law_890 : decode cL_law 890 = .ok (.iaload, 1) := by decide +kernel
theorem dL_law_891 : decode cL_law 891 = .ok (.aload_n 0, 1) := by decide +kernel
theorem dL_law_892 : decode cL_law 892 = .ok (.iload 4, 2) := by decide +kernel
theorem dL_law_894 : decode cL_law 894 = .ok (.iconst 2, 1) := by decide +kernel
theorem dL_law_895 : decode cL_law 895 = .ok (.iadd, 1) := by decide +kernel
theorem dL_law_896 : decode cL_law 896 = .ok (.iaload, 1) := by decide +kernel
theorem dL_law_897 : decode cL_law 897 = .ok (.aload_n 3, 1) := by decide +kernel
theorem dL_law_898 : decode cL_law 898 = .ok (.invokestatic 122, 3) := by decide +kernel
theorem dL_law_901 : decode cL_law 901 = .ok (.istore 5, 2) := by decide +kernel
theorem dL_law_903 : decode cL_law 903 = .ok (.aload_n 2, 1) := by decide +kernel
theorem dL_law_904 : decode cL_law 904 = .ok (.aload_n 0, 1) := by decide +kernel
theorem dL_law_905 : decode cL_law 905 = .ok (.iload 4, 2) := by decide +kernel
theorem dL_law_907 : decode cL_law 907 = .ok (.iconst 1, 1) := by decide +kernel
theorem dL_law_908 : decode cL_law 908 = .ok (.iadd, 1) := by decide +kernel
theorem dL_law_909 : decode cL_law 909 = .ok (.iaload, 1) := by decide +kernel
theorem dL_law_910 : decode cL_law 910 = .ok (.aload_n 0, 1) := by decide +kernel
theorem dL_law_911 : decode cL_law 911 = .ok (.iload 4, 2) := by decide +kernel
theorem dL_law_913 : decode cL_law 913 = .ok (.iconst 2, 1) := by decide +kernel
theorem dL_law_914 : decode cL_law 914 = .ok (.iadd, 1) := by decide +kernel
theorem dL_law_915 : decode cL_law 915 = .ok (.iaload, 1) := by decide +kernel
theorem dL_law_916 : decode cL_law 916 = .ok (.invokevirtual 124, 3) := by decide +kernel
theorem dL_law_919 : decode cL_law 919 = .ok (.istore 6, 2) := by decide +kernel
theorem dL_law_921 : decode cL_law 921 = .ok (.aload_n 2, 1) := by decide +kernel
theorem dL_law_922 : decode cL_law 922 = .ok (.invokevirtual 86, 3) := by decide +kernel
theorem dL_law_925 : decode cL_law 925 = .ok (.iload 5, 2) := by decide +kernel
theorem dL_law_927 : decode cL_law 927 = .ok (.if_icmp .eq 5, 3) := by decide +kernel
theorem dL_law_930 : decode cL_law 930 = .ok (.iconst 0, 1) := by decide +kernel
theorem dL_law_931 : decode cL_law 931 = .ok (.ireturn, 1) := by decide +kernel
theorem dL_law_932 : decode cL_law 932 = .ok (.iload 5, 2) := by decide +kernel
theorem dL_law_934 : decode cL_law 934 = .ok (.ifCond .ne 15, 3) := by decide +kernel
theorem dL_law_937 : decode cL_law 937 = .ok (.aload_n 3, 1) := by decide +kernel
theorem dL_law_938 : decode cL_law 938 = .ok (.iconst 0, 1) := by decide +kernel
theorem dL_law_939 : decode cL_law 939 = .ok (.laload, 1) := by decide +kernel
theorem dL_law_940 : decode cL_law 940 = .ok (.iload 6, 2) := by decide +kernel
theorem dL_law_942 : decode cL_law 942 = .ok (.i2l, 1) := by decide +kernel
theorem dL_law_943 : decode cL_law 943 = .ok (.lcmp, 1) := by decide +kernel
theorem dL_law_944 : decode cL_law 944 = .ok (.ifCond .eq 5, 3) := by decide +kernel
theorem dL_law_947 : decode cL_law 947 = .ok (.iconst 0, 1) := by decide +kernel
theorem dL_law_948 : decode cL_law 948 = .ok (.ireturn, 1) := by decide +kernel
theorem dL_law_949 : decode cL_law 949 = .ok (.goto 534, 3) := by decide +kernel
theorem dL_law_952 : decode cL_law 952 = .ok (.aload_n 1, 1) := by decide +kernel
theorem dL_law_953 : decode cL_law 953 = .ok (.aload_n 0, 1) := by decide +kernel
theorem dL_law_954 : decode cL_law 954 = .ok (.iload 4, 2) := by decide +kernel
theorem dL_law_956 : decode cL_law 956 = .ok (.iconst 1, 1) := by decide +kernel
theorem dL_law_957 : decode cL_law 957 = .ok (.iadd, 1) := by decide +kernel
theorem dL_law_958 : decode cL_law 958 = .ok (.iaload, 1) := by decide +kernel
theorem dL_law_959 : decode cL_law 959 = .ok (.aload_n 0, 1) := by decide +kernel
theorem dL_law_960 : decode cL_law 960 = .ok (.iload 4, 2) := by decide +kernel
theorem dL_law_962 : decode cL_law 962 = .ok (.iconst 2, 1) := by decide +kernel
theorem dL_law_963 : decode cL_law 963 = .ok (.iadd, 1) := by decide +kernel
theorem dL_law_964 : decode cL_law 964 = .ok (.iaload, 1) := by decide +kernel
theorem dL_law_965 : decode cL_law 965 = .ok (.aload_n 3, 1) := by decide +kernel
theorem dL_law_966 : decode cL_law 966 = .ok (.invokestatic 125, 3) := by decide +kernel
theorem dL_law_969 : decode cL_law 969 = .ok (.istore 5, 2) := by decide +kernel
theorem dL_law_971 : decode cL_law 971 = .ok (.aload_n 2, 1) := by decide +kernel
theorem dL_law_972 : decode cL_law 972 = .ok (.aload_n 0, 1) := by decide +kernel
theorem dL_law_973 : decode cL_law 973 = .ok (.iload 4, 2) := by decide +kernel
theorem dL_law_975 : decode cL_law 975 = .ok (.iconst 1, 1) := by decide +kernel
theorem dL_law_976 : decode cL_law 976 = .ok (.iadd, 1) := by decide +kernel
theorem dL_law_977 : decode cL_law 977 = .ok (.iaload, 1) := by decide +kernel
theorem dL_law_978 : decode cL_law 978 = .ok (.aload_n 0, 1) := by decide +kernel
theorem dL_law_979 : decode cL_law 979 = .ok (.iload 4, 2) := by decide +kernel
theorem dL_law_981 : decode cL_law 981 = .ok (.iconst 2, 1) := by decide +kernel
theorem dL_law_982 : decode cL_law 982 = .ok (.iadd, 1) := by decide +kernel
theorem dL_law_983 : decode cL_law 983 = .ok (.iaload, 1) := by decide +kernel
theorem dL_law_984 : decode cL_law 984 = .ok (.invokevirtual 127, 3) := by decide +kernel
theorem dL_law_987 : decode cL_law 987 = .ok (.istore 6, 2) := by decide +kernel
theorem dL_law_989 : decode cL_law 989 = .ok (.aload_n 2, 1) := by decide +kernel
theorem dL_law_990 : decode cL_law 990 = .ok (.invokevirtual 86, 3) := by decide +kernel
theorem dL_law_993 : decode cL_law 993 = .ok (.iload 5, 2) := by decide +kernel
theorem dL_law_995 : decode cL_law 995 = .ok (.if_icmp .eq 5, 3) := by decide +kernel
theorem dL_law_998 : decode cL_law 998 = .ok (.iconst 0, 1) := by decide +kernel
theorem dL_law_999 : decode cL_law 999 = .ok (.ireturn, 1) := by decide +kernel
theorem dL_law_1000 : decode cL_law 1000 = .ok (.iload 5, 2) := by decide +kernel
theorem dL_law_1002 : decode cL_law 1002 = .ok (.ifCond .ne 15, 3) := by decide +kernel
theorem dL_law_1005 : decode cL_law 1005 = .ok (.aload_n 3, 1) := by decide +kernel
theorem dL_law_1006 : decode cL_law 1006 = .ok (.iconst 0, 1) := by decide +kernel
theorem dL_law_1007 : decode cL_law 1007 = .ok (.laload, 1) := by decide +kernel
theorem dL_law_1008 : decode cL_law 1008 = .ok (.iload 6, 2) := by decide +kernel
theorem dL_law_1010 : decode cL_law 1010 = .ok (.i2l, 1) := by decide +kernel
theorem dL_law_1011 : decode cL_law 1011 = .ok (.lcmp, 1) := by decide +kernel
theorem dL_law_1012 : decode cL_law 1012 = .ok (.ifCond .eq 5, 3) := by decide +kernel
theorem dL_law_1015 : decode cL_law 1015 = .ok (.iconst 0, 1) := by decide +kernel
theorem dL_law_1016 : decode cL_law 1016 = .ok (.ireturn, 1) := by decide +kernel
theorem dL_law_1017 : decode cL_law 1017 = .ok (.goto 466, 3) := by decide +kernel
theorem dL_law_1020 : decode cL_law 1020 = .ok (.aload_n 1, 1) := by decide +kernel
theorem dL_law_1021 : decode cL_law 1021 = .ok (.aload_n 0, 1) := by decide +kernel
theorem dL_law_1022 : decode cL_law 1022 = .ok (.iload 4, 2) := by decide +kernel
theorem dL_law_1024 : decode cL_law 1024 = .ok (.iconst 1, 1) := by decide +kernel
theorem dL_law_1025 : decode cL_law 1025 = .ok (.iadd, 1) := by decide +kernel
theorem dL_law_1026 : decode cL_law 1026 = .ok (.iaload, 1) := by decide +kernel
theorem dL_law_1027 : decode cL_law 1027 = .ok (.aload_n 0, 1) := by decide +kernel
theorem dL_law_1028 : decode cL_law 1028 = .ok (.iload 4, 2) := by decide +kernel
theorem dL_law_1030 : decode cL_law 1030 = .ok (.iconst 2, 1) := by decide +kernel
theorem dL_law_1031 : decode cL_law 1031 = .ok (.iadd, 1) := by decide +kernel
theorem dL_law_1032 : decode cL_law 1032 = .ok (.iaload, 1) := by decide +kernel
theorem dL_law_1033 : decode cL_law 1033 = .ok (.aload_n 0, 1) := by decide +kernel
theorem dL_law_1034 : decode cL_law 1034 = .ok (.iload 4, 2) := by decide +kernel
theorem dL_law_1036 : decode cL_law 1036 = .ok (.iconst 3, 1) := by decide +kernel
theorem dL_law_1037 : decode cL_law 1037 = .ok (.iadd, 1) := by decide +kernel
theorem dL_law_1038 : decode cL_law 1038 = .ok (.iaload, 1) := by decide +kernel
theorem dL_law_1039 : decode cL_law 1039 = .ok (.aload_n 3, 1) := by decide +kernel
theorem dL_law_1040 : decode cL_law 1040 = .ok (.invokestatic 128, 3) := by decide +kernel
theorem dL_law_1043 : decode cL_law 1043 = .ok (.istore 5, 2) := by decide +kernel
theorem dL_law_1045 : decode cL_law 1045 = .ok (.aload_n 2, 1) := by decide +kernel
theorem dL_law_1046 : decode cL_law 1046 = .ok (.aload_n 0, 1) := by decide +kernel
theorem dL_law_1047 : decode cL_law 1047 = .ok (.iload 4, 2) := by decide +kernel
theorem dL_law_1049 : decode cL_law 1049 = .ok (.iconst 1, 1) := by decide +kernel
theorem dL_law_1050 : decode cL_law 1050 = .ok (.iadd, 1) := by decide +kernel
theorem dL_law_1051 : decode cL_law 1051 = .ok (.iaload, 1) := by decide +kernel
theorem dL_law_1052 : decode cL_law 1052 = .ok (.aload_n 0, 1) := by decide +kernel
theorem dL_law_1053 : decode cL_law 1053 = .ok (.iload 4, 2) := by decide +kernel
theorem dL_law_1055 : decode cL_law 1055 = .ok (.iconst 2, 1) := by decide +kernel
theorem dL_law_1056 : decode cL_law 1056 = .ok (.iadd, 1) := by decide +kernel
theorem dL_law_1057 : decode cL_law 1057 = .ok (.iaload, 1) := by decide +kernel
theorem dL_law_1058 : decode cL_law 1058 = .ok (.aload_n 0, 1) := by decide +kernel
theorem dL_law_1059 : decode cL_law 1059 = .ok (.iload 4, 2) := by decide +kernel
theorem dL_law_1061 : decode cL_law 1061 = .ok (.iconst 3, 1) := by decide +kernel
theorem dL_law_1062 : decode cL_law 1062 = .ok (.iadd, 1) := by decide +kernel
theorem dL_law_1063 : decode cL_law 1063 = .ok (.iaload, 1) := by decide +kernel
theorem dL_law_1064 : decode cL_law 1064 = .ok (.invokevirtual 130, 3) := by decide +kernel
theorem dL_law_1067 : decode cL_law 1067 = .ok (.istore 6, 2) := by decide +kernel
theorem dL_law_1069 : decode cL_law 1069 = .ok (.aload_n 2, 1) := by decide +kernel
theorem dL_law_1070 : decode cL_law 1070 = .ok (.invokevirtual 86, 3) := by decide +kernel
theorem dL_law_1073 : decode cL_law 1073 = .ok (.iload 5, 2) := by decide +kernel
theorem dL_law_1075 : decode cL_law 1075 = .ok (.if_icmp .eq 5, 3) := by decide +kernel
theorem dL_law_1078 : decode cL_law 1078 = .ok (.iconst 0, 1) := by decide +kernel
theorem dL_law_1079 : decode cL_law 1079 = .ok (.ireturn, 1) := by decide +kernel
theorem dL_law_1080 : decode cL_law 1080 = .ok (.iload 5, 2) := by decide +kernel
theorem dL_law_1082 : decode cL_law 1082 = .ok (.ifCond .ne 15, 3) := by decide +kernel
theorem dL_law_1085 : decode cL_law 1085 = .ok (.aload_n 3, 1) := by decide +kernel
theorem dL_law_1086 : decode cL_law 1086 = .ok (.iconst 0, 1) := by decide +kernel
theorem dL_law_1087 : decode cL_law 1087 = .ok (.laload, 1) := by decide +kernel
theorem dL_law_1088 : decode cL_law 1088 = .ok (.iload 6, 2) := by decide +kernel
theorem dL_law_1090 : decode cL_law 1090 = .ok (.i2l, 1) := by decide +kernel
theorem dL_law_1091 : decode cL_law 1091 = .ok (.lcmp, 1) := by decide +kernel
theorem dL_law_1092 : decode cL_law 1092 = .ok (.ifCond .eq 5, 3) := by decide +kernel
theorem dL_law_1095 : decode cL_law 1095 = .ok (.iconst 0, 1) := by decide +kernel
theorem dL_law_1096 : decode cL_law 1096 = .ok (.ireturn, 1) := by decide +kernel
theorem dL_law_1097 : decode cL_law 1097 = .ok (.goto 386, 3) := by decide +kernel
theorem dL_law_1100 : decode cL_law 1100 = .ok (.aload_n 1, 1) := by decide +kernel
theorem dL_law_1101 : decode cL_law 1101 = .ok (.aload_n 0, 1) := by decide +kernel
theorem dL_law_1102 : decode cL_law 1102 = .ok (.iload 4, 2) := by decide +kernel
theorem dL_law_1104 : decode cL_law 1104 = .ok (.iconst 1, 1) := by decide +kernel
theorem dL_law_1105 : decode cL_law 1105 = .ok (.iadd, 1) := by decide +kernel
theorem dL_law_1106 : decode cL_law 1106 = .ok (.iaload, 1) := by decide +kernel
theorem dL_law_1107 : decode cL_law 1107 = .ok (.aload_n 0, 1) := by decide +kernel
theorem dL_law_1108 : decode cL_law 1108 = .ok (.iload 4, 2) := by decide +kernel
theorem dL_law_1110 : decode cL_law 1110 = .ok (.iconst 2, 1) := by decide +kernel
theorem dL_law_1111 : decode cL_law 1111 = .ok (.iadd, 1) := by decide +kernel
theorem dL_law_1112 : decode cL_law 1112 = .ok (.iaload, 1) := by decide +kernel
theorem dL_law_1113 : decode cL_law 1113 = .ok (.aload_n 0, 1) := by decide +kernel
theorem dL_law_1114 : decode cL_law 1114 = .ok (.iload 4, 2) := by decide +kernel
theorem dL_law_1116 : decode cL_law 1116 = .ok (.iconst 3, 1) := by decide +kernel
theorem dL_law_1117 : decode cL_law 1117 = .ok (.iadd, 1) := by decide +kernel
theorem dL_law_1118 : decode cL_law 1118 = .ok (.iaload, 1) := by decide +kernel
theorem dL_law_1119 : decode cL_law 1119 = .ok (.aload_n 3, 1) := by decide +kernel
theorem dL_law_1120 : decode cL_law 1120 = .ok (.invokestatic 131, 3) := by decide +kernel
theorem dL_law_1123 : decode cL_law 1123 = .ok (.istore 5, 2) := by decide +kernel
theorem dL_law_1125 : decode cL_law 1125 = .ok (.aload_n 2, 1) := by decide +kernel
theorem dL_law_1126 : decode cL_law 1126 = .ok (.aload_n 0, 1) := by decide +kernel
theorem dL_law_1127 : decode cL_law 1127 = .ok (.iload 4, 2) := by decide +kernel
theorem dL_law_1129 : decode cL_law 1129 = .ok (.iconst 1, 1) := by decide +kernel
theorem dL_law_1130 : decode cL_law 1130 = .ok (.iadd, 1) := by decide +kernel
theorem dL_law_1131 : decode cL_law 1131 = .ok (.iaload, 1) := by decide +kernel
theorem dL_law_1132 : decode cL_law 1132 = .ok (.aload_n 0, 1) := by decide +kernel
theorem dL_law_1133 : decode cL_law 1133 = .ok (.iload 4, 2) := by decide +kernel
theorem dL_law_1135 : decode cL_law 1135 = .ok (.iconst 2, 1) := by decide +kernel
theorem dL_law_1136 : decode cL_law 1136 = .ok (.iadd, 1) := by decide +kernel
theorem dL_law_1137 : decode cL_law 1137 = .ok (.iaload, 1) := by decide +kernel
theorem dL_law_1138 : decode cL_law 1138 = .ok (.aload_n 0, 1) := by decide +kernel
theorem dL_law_1139 : decode cL_law 1139 = .ok (.iload 4, 2) := by decide +kernel
theorem dL_law_1141 : decode cL_law 1141 = .ok (.iconst 3, 1) := by decide +kernel
theorem dL_law_1142 : decode cL_law 1142 = .ok (.iadd, 1) := by decide +kernel
theorem dL_law_1143 : decode cL_law 1143 = .ok (.iaload, 1) := by decide +kernel
theorem dL_law_1144 : decode cL_law 1144 = .ok (.invokevirtual 133, 3) := by decide +kernel
theorem dL_law_1147 : decode cL_law 1147 = .ok (.istore 6, 2) := by decide +kernel
theorem dL_law_1149 : decode cL_law 1149 = .ok (.aload_n 2, 1) := by decide +kernel
theorem dL_law_1150 : decode cL_law 1150 = .ok (.invokevirtual 86, 3) := by decide +kernel
theorem dL_law_1153 : decode cL_law 1153 = .ok (.iload 5, 2) := by decide +kernel
theorem dL_law_1155 : decode cL_law 1155 = .ok (.if_icmp .eq 5, 3) := by decide +kernel
theorem dL_law_1158 : decode cL_law 1158 = .ok (.iconst 0, 1) := by decide +kernel
theorem dL_law_1159 : decode cL_law 1159 = .ok (.ireturn, 1) := by decide +kernel
theorem dL_law_1160 : decode cL_law 1160 = .ok (.iload 5, 2) := by decide +kernel
theorem dL_law_1162 : decode cL_law 1162 = .ok (.ifCond .ne 15, 3) := by decide +kernel
theorem dL_law_1165 : decode cL_law 1165 = .ok (.aload_n 3, 1) := by decide +kernel
theorem dL_law_1166 : decode cL_law 1166 = .ok (.iconst 0, 1) := by decide +kernel
theorem dL_law_1167 : decode cL_law 1167 = .ok (.laload, 1) := by decide +kernel
theorem dL_law_1168 : decode cL_law 1168 = .ok (.iload 6, 2) := by decide +kernel
theorem dL_law_1170 : decode cL_law 1170 = .ok (.i2l, 1) := by decide +kernel
theorem dL_law_1171 : decode cL_law 1171 = .ok (.lcmp, 1) := by decide +kernel
theorem dL_law_1172 : decode cL_law 1172 = .ok (.ifCond .eq 5, 3) := by decide +kernel
theorem dL_law_1175 : decode cL_law 1175 = .ok (.iconst 0, 1) := by decide +kernel
theorem dL_law_1176 : decode cL_law 1176 = .ok (.ireturn, 1) := by decide +kernel
theorem dL_law_1177 : decode cL_law 1177 = .ok (.goto 306, 3) := by decide +kernel
theorem dL_law_1180 : decode cL_law 1180 = .ok (.aload_n 1, 1) := by decide +kernel
theorem dL_law_1181 : decode cL_law 1181 = .ok (.aload_n 0, 1) := by decide +kernel
theorem dL_law_1182 : decode cL_law 1182 = .ok (.iload 4, 2) := by decide +kernel
theorem dL_law_1184 : decode cL_law 1184 = .ok (.iconst 1, 1) := by decide +kernel
theorem dL_law_1185 : decode cL_law 1185 = .ok (.iadd, 1) := by decide +kernel
theorem dL_law_1186 : decode cL_law 1186 = .ok (.iaload, 1) := by decide +kernel
theorem dL_law_1187 : decode cL_law 1187 = .ok (.aload_n 3, 1) := by decide +kernel
theorem dL_law_1188 : decode cL_law 1188 = .ok (.invokestatic 134, 3) := by decide +kernel
theorem dL_law_1191 : decode cL_law 1191 = .ok (.istore 5, 2) := by decide +kernel
theorem dL_law_1193 : decode cL_law 1193 = .ok (.aload_n 2, 1) := by decide +kernel
theorem dL_law_1194 : decode cL_law 1194 = .ok (.aload_n 0, 1) := by decide +kernel
theorem dL_law_1195 : decode cL_law 1195 = .ok (.iload 4, 2) := by decide +kernel
theorem dL_law_1197 : decode cL_law 1197 = .ok (.iconst 1, 1) := by decide +kernel
theorem dL_law_1198 : decode cL_law 1198 = .ok (.iadd, 1) := by decide +kernel
theorem dL_law_1199 : decode cL_law 1199 = .ok (.iaload, 1) := by decide +kernel
theorem dL_law_1200 : decode cL_law 1200 = .ok (.invokevirtual 136, 3) := by decide +kernel
theorem dL_law_1203 : decode cL_law 1203 = .ok (.istore 6, 2) := by decide +kernel
theorem dL_law_1205 : decode cL_law 1205 = .ok (.aload_n 2, 1) := by decide +kernel
theorem dL_law_1206 : decode cL_law 1206 = .ok (.invokevirtual 86, 3) := by decide +kernel
theorem dL_law_1209 : decode cL_law 1209 = .ok (.iload 5, 2) := by decide +kernel
theorem dL_law_1211 : decode cL_law 1211 = .ok (.if_icmp .eq 5, 3) := by decide +kernel
theorem dL_law_1214 : decode cL_law 1214 = .ok (.iconst 0, 1) := by decide +kernel
theorem dL_law_1215 : decode cL_law 1215 = .ok (.ireturn, 1) := by decide +kernel
theorem dL_law_1216 : decode cL_law 1216 = .ok (.iload 5, 2) := by decide +kernel
theorem dL_law_1218 : decode cL_law 1218 = .ok (.ifCond .ne 15, 3) := by decide +kernel
theorem dL_law_1221 : decode cL_law 1221 = .ok (.aload_n 3, 1) := by decide +kernel
theorem dL_law_1222 : decode cL_law 1222 = .ok (.iconst 0, 1) := by decide +kernel
theorem dL_law_1223 : decode cL_law 1223 = .ok (.laload, 1) := by decide +kernel
theorem dL_law_1224 : decode cL_law 1224 = .ok (.iload 6, 2) := by decide +kernel
theorem dL_law_1226 : decode cL_law 1226 = .ok (.i2l, 1) := by decide +kernel
theorem dL_law_1227 : decode cL_law 1227 = .ok (.lcmp, 1) := by decide +kernel
theorem dL_law_1228 : decode cL_law 1228 = .ok (.ifCond .eq 5, 3) := by decide +kernel
theorem dL_law_1231 : decode cL_law 1231 = .ok (.iconst 0, 1) := by decide +kernel
theorem dL_law_1232 : decode cL_law 1232 = .ok (.ireturn, 1) := by decide +kernel
theorem dL_law_1233 : decode cL_law 1233 = .ok (.goto 250, 3) := by decide +kernel
theorem dL_law_1236 : decode cL_law 1236 = .ok (.aload_n 1, 1) := by decide +kernel
theorem dL_law_1237 : decode cL_law 1237 = .ok (.aload_n 0, 1) := by decide +kernel
theorem dL_law_1238 : decode cL_law 1238 = .ok (.iload 4, 2) := by decide +kernel
theorem dL_law_1240 : decode cL_law 1240 = .ok (.iconst 1, 1) := by decide +kernel
theorem dL_law_1241 : decode cL_law 1241 = .ok (.iadd, 1) := by decide +kernel
theorem dL_law_1242 : decode cL_law 1242 = .ok (.iaload, 1) := by decide +kernel
theorem dL_law_1243 : decode cL_law 1243 = .ok (.aload_n 3, 1) := by decide +kernel
theorem dL_law_1244 : decode cL_law 1244 = .ok (.invokestatic 137, 3) := by decide +kernel
theorem dL_law_1247 : decode cL_law 1247 = .ok (.istore 5, 2) := by decide +kernel
theorem dL_law_1249 : decode cL_law 1249 = .ok (.aload_n 2, 1) := by decide +kernel
theorem dL_law_1250 : decode cL_law 1250 = .ok (.aload_n 0, 1) := by decide +kernel
theorem dL_law_1251 : decode cL_law 1251 = .ok (.iload 4, 2) := by decide +kernel
theorem dL_law_1253 : decode cL_law 1253 = .ok (.iconst 1, 1) := by decide +kernel
theorem dL_law_1254 : decode cL_law 1254 = .ok (.iadd, 1) := by decide +kernel
theorem dL_law_1255 : decode cL_law 1255 = .ok (.iaload, 1) := by decide +kernel
theorem dL_law_1256 : decode cL_law 1256 = .ok (.invokevirtual 139, 3) := by decide +kernel
theorem dL_law_1259 : decode cL_law 1259 = .ok (.istore 6, 2) := by decide +kernel
theorem dL_law_1261 : decode cL_law 1261 = .ok (.aload_n 2, 1) := by decide +kernel
theorem dL_law_1262 : decode cL_law 1262 = .ok (.invokevirtual 86, 3) := by decide +kernel
theorem dL_law_1265 : decode cL_law 1265 = .ok (.iload 5, 2) := by decide +kernel
theorem dL_law_1267 : decode cL_law 1267 = .ok (.if_icmp .eq 5, 3) := by decide +kernel
theorem dL_law_1270 : decode cL_law 1270 = .ok (.iconst 0, 1) := by decide +kernel
theorem dL_law_1271 : decode cL_law 1271 = .ok (.ireturn, 1) := by decide +kernel
theorem dL_law_1272 : decode cL_law 1272 = .ok (.iload 5, 2) := by decide +kernel
theorem dL_law_1274 : decode cL_law 1274 = .ok (.ifCond .ne 15, 3) := by decide +kernel
theorem dL_law_1277 : decode cL_law 1277 = .ok (.aload_n 3, 1) := by decide +kernel
theorem dL_law_1278 : decode cL_law 1278 = .ok (.iconst 0, 1) := by decide +kernel
theorem dL_law_1279 : decode cL_law 1279 = .ok (.laload, 1) := by decide +kernel
theorem dL_law_1280 : decode cL_law 1280 = .ok (.iload 6, 2) := by decide +kernel
theorem dL_law_1282 : decode cL_law 1282 = .ok (.i2l, 1) := by decide +kernel
theorem dL_law_1283 : decode cL_law 1283 = .ok (.lcmp, 1) := by decide +kernel
theorem dL_law_1284 : decode cL_law 1284 = .ok (.ifCond .eq 5, 3) := by decide +kernel
theorem dL_law_1287 : decode cL_law 1287 = .ok (.iconst 0, 1) := by decide +kernel
theorem dL_law_1288 : decode cL_law 1288 = .ok (.ireturn, 1) := by decide +kernel
theorem dL_law_1289 : decode cL_law 1289 = .ok (.goto 194, 3) := by decide +kernel
theorem dL_law_1292 : decode cL_law 1292 = .ok (.aload_n 1, 1) := by decide +kernel
theorem dL_law_1293 : decode cL_law 1293 = .ok (.aload_n 0, 1) := by decide +kernel
theorem dL_law_1294 : decode cL_law 1294 = .ok (.iload 4, 2) := by decide +kernel
theorem dL_law_1296 : decode cL_law 1296 = .ok (.iconst 1, 1) := by decide +kernel
theorem dL_law_1297 : decode cL_law 1297 = .ok (.iadd, 1) := by decide +kernel
theorem dL_law_1298 : decode cL_law 1298 = .ok (.iaload, 1) := by decide +kernel
theorem dL_law_1299 : decode cL_law 1299 = .ok (.aload_n 3, 1) := by decide +kernel
theorem dL_law_1300 : decode cL_law 1300 = .ok (.invokestatic 140, 3) := by decide +kernel
theorem dL_law_1303 : decode cL_law 1303 = .ok (.istore 5, 2) := by decide +kernel
theorem dL_law_1305 : decode cL_law 1305 = .ok (.aload_n 2, 1) := by decide +kernel
theorem dL_law_1306 : decode cL_law 1306 = .ok (.aload_n 0, 1) := by decide +kernel
theorem dL_law_1307 : decode cL_law 1307 = .ok (.iload 4, 2) := by decide +kernel
theorem dL_law_1309 : decode cL_law 1309 = .ok (.iconst 1, 1) := by decide +kernel
theorem dL_law_1310 : decode cL_law 1310 = .ok (.iadd, 1) := by decide +kernel
theorem dL_law_1311 : decode cL_law 1311 = .ok (.iaload, 1) := by decide +kernel
theorem dL_law_1312 : decode cL_law 1312 = .ok (.invokevirtual 142, 3) := by decide +kernel
theorem dL_law_1315 : decode cL_law 1315 = .ok (.istore 6, 2) := by decide +kernel
theorem dL_law_1317 : decode cL_law 1317 = .ok (.aload_n 2, 1) := by decide +kernel
theorem dL_law_1318 : decode cL_law 1318 = .ok (.invokevirtual 86, 3) := by decide +kernel
theorem dL_law_1321 : decode cL_law 1321 = .ok (.iload 5, 2) := by decide +kernel
theorem dL_law_1323 : decode cL_law 1323 = .ok (.if_icmp .eq 5, 3) := by decide +kernel
theorem dL_law_1326 : decode cL_law 1326 = .ok (.iconst 0, 1) := by decide +kernel
theorem dL_law_1327 : decode cL_law 1327 = .ok (.ireturn, 1) := by decide +kernel
theorem dL_law_1328 : decode cL_law 1328 = .ok (.iload 5, 2) := by decide +kernel
theorem dL_law_1330 : decode cL_law 1330 = .ok (.ifCond .ne 15, 3) := by decide +kernel
theorem dL_law_1333 : decode cL_law 1333 = .ok (.aload_n 3, 1) := by decide +kernel
theorem dL_law_1334 : decode cL_law 1334 = .ok (.iconst 0, 1) := by decide +kernel
theorem dL_law_1335 : decode cL_law 1335 = .ok (.laload, 1) := by decide +kernel
theorem dL_law_1336 : decode cL_law 1336 = .ok (.iload 6, 2) := by decide +kernel
theorem dL_law_1338 : decode cL_law 1338 = .ok (.i2l, 1) := by decide +kernel
theorem dL_law_1339 : decode cL_law 1339 = .ok (.lcmp, 1) := by decide +kernel
theorem dL_law_1340 : decode cL_law 1340 = .ok (.ifCond .eq 5, 3) := by decide +kernel
theorem dL_law_1343 : decode cL_law 1343 = .ok (.iconst 0, 1) := by decide +kernel
theorem dL_law_1344 : decode cL_law 1344 = .ok (.ireturn, 1) := by decide +kernel
theorem dL_law_1345 : decode cL_law 1345 = .ok (.goto 138, 3) := by decide +kernel
theorem dL_law_1348 : decode cL_law 1348 = .ok (.aload_n 1, 1) := by decide +kernel
theorem dL_law_1349 : decode cL_law 1349 = .ok (.aload_n 0, 1) := by decide +kernel
theorem dL_law_1350 : decode cL_law 1350 = .ok (.iload 4, 2) := by decide +kernel
theorem dL_law_1352 : decode cL_law 1352 = .ok (.iconst 1, 1) := by decide +kernel
theorem dL_law_1353 : decode cL_law 1353 = .ok (.iadd, 1) := by decide +kernel
theorem dL_law_1354 : decode cL_law 1354 = .ok (.iaload, 1) := by decide +kernel
theorem dL_law_1355 : decode cL_law 1355 = .ok (.aload_n 0, 1) := by decide +kernel
theorem dL_law_1356 : decode cL_law 1356 = .ok (.iload 4, 2) := by decide +kernel
theorem dL_law_1358 : decode cL_law 1358 = .ok (.iconst 2, 1) := by decide +kernel
theorem dL_law_1359 : decode cL_law 1359 = .ok (.iadd, 1) := by decide +kernel
theorem dL_law_1360 : decode cL_law 1360 = .ok (.iaload, 1) := by decide +kernel
theorem dL_law_1361 : decode cL_law 1361 = .ok (.aload_n 0, 1) := by decide +kernel
theorem dL_law_1362 : decode cL_law 1362 = .ok (.iload 4, 2) := by decide +kernel
theorem dL_law_1364 : decode cL_law 1364 = .ok (.iconst 3, 1) := by decide +kernel
theorem dL_law_1365 : decode cL_law 1365 = .ok (.iadd, 1) := by decide +kernel
theorem dL_law_1366 : decode cL_law 1366 = .ok (.iaload, 1) := by decide +kernel
theorem dL_law_1367 : decode cL_law 1367 = .ok (.aload_n 3, 1) := by decide +kernel
theorem dL_law_1368 : decode cL_law 1368 = .ok (.invokestatic 143, 3) := by decide +kernel
theorem dL_law_1371 : decode cL_law 1371 = .ok (.istore 5, 2) := by decide +kernel
theorem dL_law_1373 : decode cL_law 1373 = .ok (.aload_n 2, 1) := by decide +kernel
theorem dL_law_1374 : decode cL_law 1374 = .ok (.aload_n 0, 1) := by decide +kernel
theorem dL_law_1375 : decode cL_law 1375 = .ok (.iload 4, 2) := by decide +kernel
theorem dL_law_1377 : decode cL_law 1377 = .ok (.iconst 1, 1) := by decide +kernel
theorem dL_law_1378 : decode cL_law 1378 = .ok (.iadd, 1) := by decide +kernel
theorem dL_law_1379 : decode cL_law 1379 = .ok (.iaload, 1) := by decide +kernel
theorem dL_law_1380 : decode cL_law 1380 = .ok (.aload_n 0, 1) := by decide +kernel
theorem dL_law_1381 : decode cL_law 1381 = .ok (.iload 4, 2) := by decide +kernel
theorem dL_law_1383 : decode cL_law 1383 = .ok (.iconst 2, 1) := by decide +kernel
theorem dL_law_1384 : decode cL_law 1384 = .ok (.iadd, 1) := by decide +kernel
theorem dL_law_1385 : decode cL_law 1385 = .ok (.iaload, 1) := by decide +kernel
theorem dL_law_1386 : decode cL_law 1386 = .ok (.aload_n 0, 1) := by decide +kernel
theorem dL_law_1387 : decode cL_law 1387 = .ok (.iload 4, 2) := by decide +kernel
theorem dL_law_1389 : decode cL_law 1389 = .ok (.iconst 3, 1) := by decide +kernel
theorem dL_law_1390 : decode cL_law 1390 = .ok (.iadd, 1) := by decide +kernel
theorem dL_law_1391 : decode cL_law 1391 = .ok (.iaload, 1) := by decide +kernel
theorem dL_law_1392 : decode cL_law 1392 = .ok (.invokevirtual 145, 3) := by decide +kernel
theorem dL_law_1395 : decode cL_law 1395 = .ok (.istore 6, 2) := by decide +kernel
theorem dL_law_1397 : decode cL_law 1397 = .ok (.aload_n 2, 1) := by decide +kernel
theorem dL_law_1398 : decode cL_law 1398 = .ok (.invokevirtual 86, 3) := by decide +kernel
theorem dL_law_1401 : decode cL_law 1401 = .ok (.iload 5, 2) := by decide +kernel
theorem dL_law_1403 : decode cL_law 1403 = .ok (.if_icmp .eq 5, 3) := by decide +kernel
theorem dL_law_1406 : decode cL_law 1406 = .ok (.iconst 0, 1) := by decide +kernel
theorem dL_law_1407 : decode cL_law 1407 = .ok (.ireturn, 1) := by decide +kernel
theorem dL_law_1408 : decode cL_law 1408 = .ok (.iload 5, 2) := by decide +kernel
theorem dL_law_1410 : decode cL_law 1410 = .ok (.ifCond .ne 15, 3) := by decide +kernel
theorem dL_law_1413 : decode cL_law 1413 = .ok (.aload_n 3, 1) := by decide +kernel
theorem dL_law_1414 : decode cL_law 1414 = .ok (.iconst 0, 1) := by decide +kernel
theorem dL_law_1415 : decode cL_law 1415 = .ok (.laload, 1) := by decide +kernel
theorem dL_law_1416 : decode cL_law 1416 = .ok (.iload 6, 2) := by decide +kernel
theorem dL_law_1418 : decode cL_law 1418 = .ok (.i2l, 1) := by decide +kernel
theorem dL_law_1419 : decode cL_law 1419 = .ok (.lcmp, 1) := by decide +kernel
theorem dL_law_1420 : decode cL_law 1420 = .ok (.ifCond .eq 5, 3) := by decide +kernel
theorem dL_law_1423 : decode cL_law 1423 = .ok (.iconst 0, 1) := by decide +kernel
theorem dL_law_1424 : decode cL_law 1424 = .ok (.ireturn, 1) := by decide +kernel
theorem dL_law_1425 : decode cL_law 1425 = .ok (.goto 58, 3) := by decide +kernel
theorem dL_law_1428 : decode cL_law 1428 = .ok (.aload_n 1, 1) := by decide +kernel
theorem dL_law_1429 : decode cL_law 1429 = .ok (.invokevirtual 146, 3) := by decide +kernel
theorem dL_law_1432 : decode cL_law 1432 = .ok (.dstore 5, 2) := by decide +kernel
theorem dL_law_1434 : decode cL_law 1434 = .ok (.aload_n 2, 1) := by decide +kernel
theorem dL_law_1435 : decode cL_law 1435 = .ok (.invokevirtual 150, 3) := by decide +kernel
theorem dL_law_1438 : decode cL_law 1438 = .ok (.dstore 7, 2) := by decide +kernel
theorem dL_law_1440 : decode cL_law 1440 = .ok (.dload 5, 2) := by decide +kernel
theorem dL_law_1442 : decode cL_law 1442 = .ok (.dload 7, 2) := by decide +kernel
theorem dL_law_1444 : decode cL_law 1444 = .ok (.dcmp .l, 1) := by decide +kernel
theorem dL_law_1445 : decode cL_law 1445 = .ok (.ifCond .eq 21, 3) := by decide +kernel
theorem dL_law_1448 : decode cL_law 1448 = .ok (.dload 5, 2) := by decide +kernel
theorem dL_law_1450 : decode cL_law 1450 = .ok (.dload 5, 2) := by decide +kernel
theorem dL_law_1452 : decode cL_law 1452 = .ok (.dcmp .l, 1) := by decide +kernel
theorem dL_law_1453 : decode cL_law 1453 = .ok (.ifCond .eq 11, 3) := by decide +kernel
theorem dL_law_1456 : decode cL_law 1456 = .ok (.dload 7, 2) := by decide +kernel
theorem dL_law_1458 : decode cL_law 1458 = .ok (.dload 7, 2) := by decide +kernel
theorem dL_law_1460 : decode cL_law 1460 = .ok (.dcmp .l, 1) := by decide +kernel
theorem dL_law_1461 : decode cL_law 1461 = .ok (.ifCond .ne 5, 3) := by decide +kernel
theorem dL_law_1464 : decode cL_law 1464 = .ok (.iconst 0, 1) := by decide +kernel
theorem dL_law_1465 : decode cL_law 1465 = .ok (.ireturn, 1) := by decide +kernel
theorem dL_law_1466 : decode cL_law 1466 = .ok (.goto 17, 3) := by decide +kernel
theorem dL_law_1469 : decode cL_law 1469 = .ok (.aload_n 1, 1) := by decide +kernel
theorem dL_law_1470 : decode cL_law 1470 = .ok (.invokevirtual 151, 3) := by decide +kernel
theorem dL_law_1473 : decode cL_law 1473 = .ok (.aload_n 2, 1) := by decide +kernel
theorem dL_law_1474 : decode cL_law 1474 = .ok (.invokevirtual 155, 3) := by decide +kernel
theorem dL_law_1477 : decode cL_law 1477 = .ok (.lcmp, 1) := by decide +kernel
theorem dL_law_1478 : decode cL_law 1478 = .ok (.ifCond .eq 5, 3) := by decide +kernel
theorem dL_law_1481 : decode cL_law 1481 = .ok (.iconst 0, 1) := by decide +kernel
theorem dL_law_1482 : decode cL_law 1482 = .ok (.ireturn, 1) := by decide +kernel
theorem dL_law_1483 : decode cL_law 1483 = .ok (.iinc 4 4, 3) := by decide +kernel
theorem dL_law_1486 : decode cL_law 1486 = .ok (.goto (-1463), 3) := by decide +kernel
theorem dL_law_1489 : decode cL_law 1489 = .ok (.iconst 1, 1) := by decide +kernel
theorem dL_law_1490 : decode cL_law 1490 = .ok (.ireturn, 1) := by decide +kernel
end
section
/-! ===== BEGIN a constructor that throws (launches without stack traces) ===== -/
section VXIA
variable {p : Program} {l : Launch} {e : Env} {R : Room} {s : State} {m : MethodId} {args : Array Value} {below : List Frame} {meth : Method} {c : Code} {T : State} {locs : List Loc} {cells slots : Nat}
theorem vx_callI (X : Stand p l e R s m args below meth c T locs cells slots) (hexec : p.tables.exec = Jvm.exec) {own : String} {index : Nat} {y : MethodName} {bytes : ByteArray} {maxL : Nat}
    (hown : s.vm.findClass own = some m.cls) (hy1 : y.name = "<init>") (hlink : (Cond.methodLink own index y).before args s = true) (hinst : (Cond.instanceMethod y).before args s = true)
    (hcode : (Cond.code y bytes maxL none).before args s = true) (hy : y.cls ≠ "java/lang/invoke/MethodHandle" ∧ y.cls ≠ "java/lang/invoke/VarHandle")
    {W9 : Nat} {Pre : Pt → Array Value → Prop} {Post : Pt → Array Value → Option Value → Pt → Prop} {PostX : Pt → Array Value → Addr → Pt → Prop} (hK : vx_Back l R p e below s args y 3 W9 Pre Post PostX)
    {g : JFrame} (hg : g.method = m) (hsize : g.locals.size = c.maxLocals) {a : Addr} {argsL rest : List Value} (hlen : ∀ sig, parseMethodDescriptor y.desc = some sig → argsL.length = sig.parameters.length)
    (hstack : g.stack = argsL.reverse ++ .ref a :: rest) (hW : 2 * g.monitorRoom + (rest.map fun v => v.category).sum ≤ W9) (hdg : decode c.code g.pc = .ok (.invokespecial index, 3))
    (hpre : ∀ vm₁, s.WarmedH vm₁ → Pre ⟨T.setVm vm₁, locs, cells, slots⟩ (Value.ref a :: argsL).toArray) :
    (∃ (v : Option Value) (vm₁ : Vm) (B : Pt), s.WarmedH vm₁ ∧ Stand p l e R s m args below meth c B.U B.locs B.cells B.slots ∧ Post ⟨T.setVm vm₁, locs, cells, slots⟩ (Value.ref a :: argsL).toArray v B ∧
      ∀ target, Steps p.tables e below (B.U.setTop { g with pc := g.pc + 3, stack := v.toList ++ rest }) target → Steps p.tables e below (T.setTop g) target) ∨
    (∃ (q : Addr) (vm₁ : Vm) (B : Pt), s.WarmedH vm₁ ∧ Stand p l e R s m args below meth c B.U B.locs B.cells B.slots ∧ PostX ⟨T.setVm vm₁, locs, cells, slots⟩ (Value.ref a :: argsL).toArray q B ∧
      Steps p.tables e below (T.setTop g) ((B.U.setTop { g with stack := rest }).pushFrame (.throwing q))) := by
  subst hg
  have hpl : e.platform.magicAccessors = ({} : Platform).magicAccessors := by rw [X.admits.platform]
  obtain ⟨mk, methM, cM, kP, vm₁, hnamed, hmethM, hcodeM, -, hlocalsM, -, hkP, -, hW₁, hstep₁⟩ := Steps.initColdArgs (e := e) X.here hexec X.warmed hpl hown hy1 hy hlink hinst hcode (f := g) rfl hlen hstack hdg
  have X₁ := X.noted hW₁
  rcases hK g.method meth c ⟨T.setVm vm₁, locs, cells, slots⟩ { g with stack := rest } (.invokespecial index) mk (Value.ref a :: argsL).toArray X₁ rfl hsize hdg hW (X₁.named hnamed) (hpre vm₁ X₁.warmed) with ⟨v, B, X', hpost, hsteps⟩ | ⟨q, B, X', hpost, hsteps⟩
  · exact Or.inl ⟨v, vm₁, B, X₁.warmed, X', hpost, fun target h => hstep₁ _ fun acts => by rw [doInvoke_state]; exact hsteps.trans h⟩
  · exact Or.inr ⟨q, vm₁, B, X₁.warmed, X', hpost, hstep₁ _ fun acts => by rw [doInvoke_state]; exact hsteps⟩
end VXIA
section VXIB
variable {p : Program} {l : Launch} {e : Env} {R : Room} {s : State} {m : MethodId} {args : Array Value} {below : List Frame} {meth : Method} {c : Code} {H : Heap} {locs : List Loc} {cells slots : Nat}
variable {y : MethodName} {bytes cc : ByteArray} {maxL nL mc ms n index : Nat} {ret : Option FieldType} {ws : List Cond} {rm : Room} {Pc : Array Value → State → Prop} {Qc : Array Value → State → Outcome → State → Prop} {XC : String → State → State → Prop} {free : Addr → Prop} {Ts : List Cond} {own C : String} {b : Addr} {As rest : List Value} {g : JFrame}
theorem vx_runI (S : CallFix p m c cc nL s args Ts own) (hM : vx_Met l y ws rm Pc Qc XC mc ms free) (cw : CallB R s args own index y bytes maxL none ws rm mc ms n ∧ y.name = "<init>" ∧ (Cond.instanceMethod y).before args s = true) (hp : PreS s H Pc (.ref b :: As))
    (hg : g.method = m) (hn : As.length = n) (hsize : g.locals.size = nL) (hstack : g.stack = As.reverse ++ .ref b :: rest) (hW : 2 * g.monitorRoom + (rest.map fun v => v.category).sum ≤ 8) (hdg : decode cc g.pc = .ok (.invokespecial index, 3)) (hf : cells + mc ≤ R.cells ∧ slots + ms ≤ R.slots) :
    vx_Run p l e R s m args below meth c H locs cells slots mc ms g rest (Qc (Value.ref b :: As).toArray) XC free := by
  have hK : vx_Back l R p e below s args y 3 8 (PreOf R mc ms Pc) (PostOf Qc mc ms free) (vx_Post XC mc ms free) := vx_callBack cw.1 hM hp.1
  obtain ⟨⟨-, -, -, -, -, -, hcode, -, hy, hlen, hl⟩, hy1, hin⟩ := cw
  obtain ⟨hx, hb, hml, ho, -⟩ := S
  have hPc := hp.2
  intro T hT X
  rcases vx_callI X hx (bytes := bytes) (maxL := maxL) ho hy1 hl hin hcode hy hK hg (hsize.trans hml.symm) (a := b) (argsL := As) (rest := rest) (fun sig h => hn.trans (hlen sig h)) hstack hW (by rw [hb]; exact hdg)
    (fun vm₁ hW₁ => ⟨hf.1, hf.2, hPc (T.setVm vm₁) hT hW₁⟩) with ⟨v, vm₁, ⟨U', l2, c2, s2⟩, hW₁, X', ⟨g', mk, t, L, e1, e2, hq, h1, hL, h2, h3⟩, st⟩ | ⟨q, vm₁, ⟨U', l2, c2, s2⟩, hW₁, X', ⟨g', mk, t, L, E, ce, e1, e2, hq, hce, hcv, hcl, h1, hL, h2, h3⟩, st⟩
  · dsimp only [Pt.U, Pt.locs, Pt.cells, Pt.slots] at X' e1 e2 h1 h2 h3 st
    subst h1; subst h2; subst h3
    exact Or.inl ⟨v, (T.setVm vm₁).calling g' mk (Value.ref b :: As).toArray, t, U', L, hT, X', hL, e1, e2, hq, st⟩
  · dsimp only [Pt.U, Pt.locs, Pt.cells, Pt.slots] at X' e1 e2 h1 h2 h3 st hcl
    subst h1; subst h2; subst h3
    exact Or.inr ⟨q, (T.setVm vm₁).calling g' mk (Value.ref b :: As).toArray, t, U', L, E, ce, hT, X', hL, e1, e2, hq, hce, hcv, vx_cls hW₁ hcl, st⟩
end VXIB
/-! ===== END ===== -/
/-! ===== BEGIN a private constructor of a nest mate that throws ===== -/
section VXIC
variable {p : Program} {l : Launch} {e : Env} {R : Room} {s : State} {m : MethodId} {args : Array Value} {below : List Frame} {meth : Method} {c : Code} {T : State} {locs : List Loc} {cells slots : Nat}
theorem vx_callIN (X : Stand p l e R s m args below meth c T locs cells slots) (hexec : p.tables.exec = Jvm.exec) {own : String} {index : Nat} {host : String} {y : MethodName} {bytes : ByteArray} {maxL : Nat}
    (hown : s.vm.findClass own = some m.cls) (hy1 : y.name = "<init>") (hlink : (Cond.methodLinkNest own index y host).before args s = true) (hinst : (Cond.instanceMethod y).before args s = true)
    (hcode : (Cond.code y bytes maxL none).before args s = true) (hy : y.cls ≠ "java/lang/invoke/MethodHandle" ∧ y.cls ≠ "java/lang/invoke/VarHandle")
    {W9 : Nat} {Pre : Pt → Array Value → Prop} {Post : Pt → Array Value → Option Value → Pt → Prop} {PostX : Pt → Array Value → Addr → Pt → Prop} (hK : vx_Back l R p e below s args y 3 W9 Pre Post PostX)
    {g : JFrame} (hg : g.method = m) (hsize : g.locals.size = c.maxLocals) {a : Addr} {argsL rest : List Value} (hlen : ∀ sig, parseMethodDescriptor y.desc = some sig → argsL.length = sig.parameters.length)
    (hstack : g.stack = argsL.reverse ++ .ref a :: rest) (hW : 2 * g.monitorRoom + (rest.map fun v => v.category).sum ≤ W9) (hdg : decode c.code g.pc = .ok (.invokespecial index, 3))
    (hpre : ∀ vm₁, s.WarmedH vm₁ → Pre ⟨T.setVm vm₁, locs, cells, slots⟩ (Value.ref a :: argsL).toArray) :
    (∃ (v : Option Value) (vm₁ : Vm) (B : Pt), s.WarmedH vm₁ ∧ Stand p l e R s m args below meth c B.U B.locs B.cells B.slots ∧ Post ⟨T.setVm vm₁, locs, cells, slots⟩ (Value.ref a :: argsL).toArray v B ∧
      ∀ target, Steps p.tables e below (B.U.setTop { g with pc := g.pc + 3, stack := v.toList ++ rest }) target → Steps p.tables e below (T.setTop g) target) ∨
    (∃ (q : Addr) (vm₁ : Vm) (B : Pt), s.WarmedH vm₁ ∧ Stand p l e R s m args below meth c B.U B.locs B.cells B.slots ∧ PostX ⟨T.setVm vm₁, locs, cells, slots⟩ (Value.ref a :: argsL).toArray q B ∧
      Steps p.tables e below (T.setTop g) ((B.U.setTop { g with stack := rest }).pushFrame (.throwing q))) := by
  subst hg
  have hpl : e.platform.magicAccessors = ({} : Platform).magicAccessors := by rw [X.admits.platform]
  obtain ⟨mk, methM, cM, kP, vm₁, hnamed, hmethM, hcodeM, -, hlocalsM, -, hkP, -, hW₁, hstep₁⟩ := Steps.initColdArgsNest (e := e) X.here hexec X.warmed hpl hown hy1 hy hlink hinst hcode (f := g) rfl hlen hstack hdg
  have X₁ := X.noted hW₁
  rcases hK g.method meth c ⟨T.setVm vm₁, locs, cells, slots⟩ { g with stack := rest } (.invokespecial index) mk (Value.ref a :: argsL).toArray X₁ rfl hsize hdg hW (X₁.named hnamed) (hpre vm₁ X₁.warmed) with ⟨v, B, X', hpost, hsteps⟩ | ⟨q, B, X', hpost, hsteps⟩
  · exact Or.inl ⟨v, vm₁, B, X₁.warmed, X', hpost, fun target h => hstep₁ _ fun acts => by rw [doInvoke_state]; exact hsteps.trans h⟩
  · exact Or.inr ⟨q, vm₁, B, X₁.warmed, X', hpost, hstep₁ _ fun acts => by rw [doInvoke_state]; exact hsteps⟩
end VXIC
section VXID
variable {p : Program} {l : Launch} {e : Env} {R : Room} {s : State} {m : MethodId} {args : Array Value} {below : List Frame} {meth : Method} {c : Code} {H : Heap} {locs : List Loc} {cells slots : Nat}
theorem vx_runIN {y : MethodName} {bytes cc : ByteArray} {maxL nL mc ms n index : Nat} {ws : List Cond} {rm : Room} {Pc : Array Value → State → Prop} {Qc : Array Value → State → Outcome → State → Prop} {XC : String → State → State → Prop} {free : Addr → Prop} {Ts : List Cond} {own host : String} {b : Addr} {As rest : List Value} {g : JFrame}
    (S : CallFix p m c cc nL s args Ts own) (hM : vx_Met l y ws rm Pc Qc XC mc ms free) (cw : va_CN R s args own index y host bytes maxL none ws rm mc ms n ∧ y.name = "<init>" ∧ (Cond.instanceMethod y).before args s = true) (hp : PreS s H Pc (.ref b :: As))
    (hg : g.method = m) (hn : As.length = n) (hsize : g.locals.size = nL) (hstack : g.stack = As.reverse ++ .ref b :: rest) (hW : 2 * g.monitorRoom + (rest.map fun v => v.category).sum ≤ 8) (hdg : decode cc g.pc = .ok (.invokespecial index, 3)) (hf : cells + mc ≤ R.cells ∧ slots + ms ≤ R.slots) :
    vx_Run p l e R s m args below meth c H locs cells slots mc ms g rest (Qc (Value.ref b :: As).toArray) XC free := by
  obtain ⟨⟨⟨hrc, hrs, hfr, hlo, hws, hcw⟩, hcode, hini, hy, hlen, hl⟩, hx1, hx2⟩ := cw
  have hK : vx_Back l R p e below s args y 3 8 (PreOf R mc ms Pc) (PostOf Qc mc ms free) (vx_Post XC mc ms free) := vx_back (bytes := bytes) (maxL := maxL) (ret := none) hM hp.1 hrc hrs hfr hlo hws hcw (fun a' U hW => word_at hW (Or.inl (by first | rfl | simp [Cond.onTables, Cond.keeps, Cond.steady])) hini)
  obtain ⟨hx, hb, hml, ho, -⟩ := S
  have hPc := hp.2
  intro T hT X
  rcases vx_callIN X hx (bytes := bytes) (maxL := maxL) ho hx1 hl hx2 hcode hy hK hg (hsize.trans hml.symm) (a := b) (argsL := As) (rest := rest) (fun sig h => hn.trans (hlen sig h)) hstack hW (by rw [hb]; exact hdg)
    (fun vm₁ hW₁ => ⟨hf.1, hf.2, hPc (T.setVm vm₁) hT hW₁⟩) with ⟨v, vm₁, ⟨U', l2, c2, s2⟩, hW₁, X', ⟨g', mk, t, L, e1, e2, hq, h1, hL, h2, h3⟩, st⟩ | ⟨q, vm₁, ⟨U', l2, c2, s2⟩, hW₁, X', ⟨g', mk, t, L, E, ce, e1, e2, hq, hce, hcv, hcl, h1, hL, h2, h3⟩, st⟩
  · dsimp only [Pt.U, Pt.locs, Pt.cells, Pt.slots] at X' e1 e2 h1 h2 h3 st
    subst h1; subst h2; subst h3
    exact Or.inl ⟨v, (T.setVm vm₁).calling g' mk (Value.ref b :: As).toArray, t, U', L, hT, X', hL, e1, e2, hq, st⟩
  · dsimp only [Pt.U, Pt.locs, Pt.cells, Pt.slots] at X' e1 e2 h1 h2 h3 st hcl
    subst h1; subst h2; subst h3
    exact Or.inr ⟨q, (T.setVm vm₁).calling g' mk (Value.ref b :: As).toArray, t, U', L, E, ce, hT, X', hL, e1, e2, hq, hce, hcv, vx_cls hW₁ hcl, st⟩
end VXID
/-! ===== END ===== -/
/-! ===== BEGIN a private method of a nest mate that may throw (follows va_callVN, va_callSN, va_runVN, va_runSN) ===== -/
section
variable {p : Program} {l : Launch} {e : Env} {R : Room} {s : State} {m : MethodId} {args : Array Value} {below : List Frame} {meth : Method} {c : Code} {H : Heap} {locs : List Loc} {cells slots : Nat}
variable {T : State}
theorem vx_callVN (X : Stand p l e R s m args below meth c T locs cells slots) (hexec : p.tables.exec = Jvm.exec) {own C : String} {index : Nat} {host : String} {y : MethodName} {bytes : ByteArray} {maxL : Nat} {ret : Option FieldType}
    (hown : s.vm.findClass own = some m.cls) (hlink : (Cond.methodLinkNest own index y host).before args s = true) (hinst : (Cond.instanceMethod y).before args s = true) (hsel : (Cond.selects C y y).before args s = true)
    (hcode : (Cond.code y bytes maxL ret).before args s = true) (hy : y.cls ≠ "java/lang/invoke/MethodHandle" ∧ y.cls ≠ "java/lang/invoke/VarHandle")
    {W : Nat} {Pre : Pt → Array Value → Prop} {Post : Pt → Array Value → Option Value → Pt → Prop} {PostX : Pt → Array Value → Addr → Pt → Prop} (hK : vx_Back l R p e below s args y 3 W Pre Post PostX)
    {b : Addr} {cellB : Cell} (hcell : T.heap[b]? = some cellB) (hobj : cellB.vm.isStatics = false) (hcls : s.vm.findClass C = some cellB.cls)
    {g : JFrame} (hg : g.method = m) (hsize : g.locals.size = c.maxLocals) {argsL rest : List Value} (hlen : ∀ sig, parseMethodDescriptor y.desc = some sig → argsL.length = sig.parameters.length)
    (hstack : g.stack = argsL.reverse ++ .ref b :: rest) (hW : 2 * g.monitorRoom + (rest.map fun v => v.category).sum ≤ W) (hdg : decode c.code g.pc = .ok (.invokevirtual index, 3))
    (hpre : ∀ vm₁, s.WarmedH vm₁ → Pre ⟨T.setVm vm₁, locs, cells, slots⟩ (Value.ref b :: argsL).toArray) :
    (∃ (v : Option Value) (vm₁ : Vm) (B : Pt), s.WarmedH vm₁ ∧ Stand p l e R s m args below meth c B.U B.locs B.cells B.slots ∧ Post ⟨T.setVm vm₁, locs, cells, slots⟩ (Value.ref b :: argsL).toArray v B ∧
      ∀ target, Steps p.tables e below (B.U.setTop { g with pc := g.pc + 3, stack := v.toList ++ rest }) target → Steps p.tables e below (T.setTop g) target) ∨
    (∃ (q : Addr) (vm₁ : Vm) (B : Pt), s.WarmedH vm₁ ∧ Stand p l e R s m args below meth c B.U B.locs B.cells B.slots ∧ PostX ⟨T.setVm vm₁, locs, cells, slots⟩ (Value.ref b :: argsL).toArray q B ∧
      Steps p.tables e below (T.setTop g) ((B.U.setTop { g with stack := rest }).pushFrame (.throwing q))) := by
  obtain ⟨mk, methM, hnamed, hmethM, hstM, habM⟩ := Cond.instanceMethod_spec hinst
  obtain ⟨methM', cM, hmethM', -, -, -, -, -, -, hsigM⟩ := Cond.code_spec hnamed hcode
  cases hmethM.symm.trans hmethM'
  obtain ⟨c2, r2, m2, q1, q2, q3, q4, kP, hkP, hkPi⟩ := Cond.selects_spec hsel
  cases hcls.symm.trans q1
  cases (State.methodFound?_of_named hnamed hy).symm.trans q2
  cases hnamed.symm.trans q3
  have hselP : selectMethod e.platform s.vm cellB.cls mk = .method mk := by rw [Launch.admits_selectMethod X.admits]; exact q4
  obtain ⟨vm₁, X₁, hstep₁⟩ := X.invokevirtualNest hexec hown hlink hnamed hmethM hstM hkP hkPi hy (a := b) (cell := cellB) hcell
    (fun z h => by rw [h] at hobj; cases hobj) hselP hmethM habM hkP hkPi (g := g) hg (argsL := argsL) (rest := rest) (hlen _ hsigM) hstack hdg
  rcases hK m meth c ⟨T.setVm vm₁, locs, cells, slots⟩ { g with stack := rest } (.invokevirtual index) mk (Value.ref b :: argsL).toArray X₁ hg hsize hdg hW (X₁.named hnamed) (hpre vm₁ X₁.warmed) with ⟨v, B, X', hpost, hsteps⟩ | ⟨q, B, X', hpost, hsteps⟩
  · exact Or.inl ⟨v, vm₁, B, X₁.warmed, X', hpost, fun target h => hstep₁ _ fun acts => by rw [doInvoke_state]; exact hsteps.trans h⟩
  · exact Or.inr ⟨q, vm₁, B, X₁.warmed, X', hpost, hstep₁ _ fun acts => by rw [doInvoke_state]; exact hsteps⟩
theorem vx_callSN (X : Stand p l e R s m args below meth c T locs cells slots) (hexec : p.tables.exec = Jvm.exec) {own : String} {index : Nat} {host : String} {y : MethodName} {bytes : ByteArray} {maxL : Nat} {ret : Option FieldType}
    (hown : s.vm.findClass own = some m.cls) (hlink : (Cond.methodLinkNest own index y host).before args s = true) (hstat : (Cond.static y).before args s = true) (hinit : (Cond.initialized y.cls).before args s = true)
    (hcode : (Cond.code y bytes maxL ret).before args s = true) (hy : y.cls ≠ "java/lang/invoke/MethodHandle" ∧ y.cls ≠ "java/lang/invoke/VarHandle")
    {W : Nat} {Pre : Pt → Array Value → Prop} {Post : Pt → Array Value → Option Value → Pt → Prop} {PostX : Pt → Array Value → Addr → Pt → Prop} (hK : vx_Back l R p e below s args y 3 W Pre Post PostX)
    {g : JFrame} (hg : g.method = m) (hsize : g.locals.size = c.maxLocals) {argsL rest : List Value} (hlen : ∀ sig, parseMethodDescriptor y.desc = some sig → argsL.length = sig.parameters.length)
    (hstack : g.stack = argsL.reverse ++ rest) (hW : 2 * g.monitorRoom + (rest.map fun v => v.category).sum ≤ W) (hdg : decode c.code g.pc = .ok (.invokestatic index, 3))
    (hpre : ∀ vm₁, s.WarmedH vm₁ → Pre ⟨T.setVm vm₁, locs, cells, slots⟩ argsL.toArray) :
    (∃ (v : Option Value) (vm₁ : Vm) (B : Pt), s.WarmedH vm₁ ∧ Stand p l e R s m args below meth c B.U B.locs B.cells B.slots ∧ Post ⟨T.setVm vm₁, locs, cells, slots⟩ argsL.toArray v B ∧
      ∀ target, Steps p.tables e below (B.U.setTop { g with pc := g.pc + 3, stack := v.toList ++ rest }) target → Steps p.tables e below (T.setTop g) target) ∨
    (∃ (q : Addr) (vm₁ : Vm) (B : Pt), s.WarmedH vm₁ ∧ Stand p l e R s m args below meth c B.U B.locs B.cells B.slots ∧ PostX ⟨T.setVm vm₁, locs, cells, slots⟩ argsL.toArray q B ∧
      Steps p.tables e below (T.setTop g) ((B.U.setTop { g with stack := rest }).pushFrame (.throwing q))) := by
  obtain ⟨mk, hnamed⟩ := Cond.code_named hcode
  obtain ⟨methM, cM, hmethM, -, -, -, -, -, -, hsigM⟩ := Cond.code_spec hnamed hcode
  have hstatic : methM.isStatic = true := Cond.static_spec hnamed hmethM hstat
  obtain ⟨kP, hkP, -⟩ := className_of_methodNamed hnamed
  have hinitP : kP.init = .initialized := Cond.initialized_spec (findClass_of_methodNamed hnamed) hkP hinit
  obtain ⟨vm₁, X₁, hstep₁⟩ := X.invokestaticNest hexec hown hlink hnamed hmethM hstatic hkP hinitP hy (g := g) hg (argsL := argsL) (rest := rest) (hlen _ hsigM) hstack hdg
  rcases hK m meth c ⟨T.setVm vm₁, locs, cells, slots⟩ { g with stack := rest } (.invokestatic index) mk argsL.toArray X₁ hg hsize hdg hW (X₁.named hnamed) (hpre vm₁ X₁.warmed) with ⟨v, B, X', hpost, hsteps⟩ | ⟨q, B, X', hpost, hsteps⟩
  · exact Or.inl ⟨v, vm₁, B, X₁.warmed, X', hpost, fun target h => hstep₁ _ fun acts => by rw [doInvoke_state]; exact hsteps.trans h⟩
  · exact Or.inr ⟨q, vm₁, B, X₁.warmed, X', hpost, hstep₁ _ fun acts => by rw [doInvoke_state]; exact hsteps⟩
theorem vx_runVN {y : MethodName} {bytes cc : ByteArray} {maxL nL mc ms n index : Nat} {ret : Option FieldType} {ws : List Cond} {rm : Room} {Pc : Array Value → State → Prop} {Qc : Array Value → State → Outcome → State → Prop} {XC : String → State → State → Prop} {free : Addr → Prop} {Ts : List Cond} {own C host : String} {b : Addr} {As rest : List Value} {g : JFrame}
    (S : CallFix p m c cc nL s args Ts own) (hM : vx_Met l y ws rm Pc Qc XC mc ms free) (cw : va_CN R s args own index y host bytes maxL ret ws rm mc ms n ∧ (Cond.instanceMethod y).before args s = true ∧ (Cond.selects C y y).before args s = true) (hp : PreV s H C b Pc As)
    (hg : g.method = m) (hn : As.length = n) (hsize : g.locals.size = nL) (hstack : g.stack = As.reverse ++ .ref b :: rest) (hW : 2 * g.monitorRoom + (rest.map fun v => v.category).sum ≤ 8) (hdg : decode cc g.pc = .ok (.invokevirtual index, 3)) (hf : cells + mc ≤ R.cells ∧ slots + ms ≤ R.slots) :
    vx_Run p l e R s m args below meth c H locs cells slots mc ms g rest (Qc (Value.ref b :: As).toArray) XC free := by
  obtain ⟨⟨⟨hrc, hrs, hfr, hlo, hws, hcw⟩, hcode, hini, hy, hlen, hl⟩, hx1, hx2⟩ := cw
  have hK : vx_Back l R p e below s args y 3 8 (PreOf R mc ms Pc) (PostOf Qc mc ms free) (vx_Post XC mc ms free) := vx_back (bytes := bytes) (maxL := maxL) (ret := ret) hM hp.1 hrc hrs hfr hlo hws hcw (fun a' U hW => word_at hW (Or.inl (by first | rfl | simp [Cond.onTables, Cond.keeps, Cond.steady])) hini)
  obtain ⟨hx, hb, hml, ho, -⟩ := S
  obtain ⟨-, ⟨cellB, hcB, hoB, hclB⟩, hPc⟩ := hp
  intro T hT X
  rcases vx_callVN X hx (C := C) (bytes := bytes) (maxL := maxL) (ret := ret) ho hl hx1 hx2 hcode hy hK (by rw [hT]; exact hcB) hoB hclB hg (hsize.trans hml.symm) (argsL := As) (rest := rest) (fun sig h => hn.trans (hlen sig h)) hstack hW (by rw [hb]; exact hdg)
    (fun vm₁ hW₁ => ⟨hf.1, hf.2, hPc (T.setVm vm₁) hT hW₁⟩) with ⟨v, vm₁, ⟨U', l2, c2, s2⟩, hW₁, X', ⟨g', mk, t, L, e1, e2, hq, h1, hL, h2, h3⟩, st⟩ | ⟨q, vm₁, ⟨U', l2, c2, s2⟩, hW₁, X', ⟨g', mk, t, L, E, ce, e1, e2, hq, hce, hcv, hcl, h1, hL, h2, h3⟩, st⟩
  · dsimp only [Pt.U, Pt.locs, Pt.cells, Pt.slots] at X' e1 e2 h1 h2 h3 st
    subst h1; subst h2; subst h3
    exact Or.inl ⟨v, (T.setVm vm₁).calling g' mk (Value.ref b :: As).toArray, t, U', L, hT, X', hL, e1, e2, hq, st⟩
  · dsimp only [Pt.U, Pt.locs, Pt.cells, Pt.slots] at X' e1 e2 h1 h2 h3 st hcl
    subst h1; subst h2; subst h3
    exact Or.inr ⟨q, (T.setVm vm₁).calling g' mk (Value.ref b :: As).toArray, t, U', L, E, ce, hT, X', hL, e1, e2, hq, hce, hcv, vx_cls hW₁ hcl, st⟩
theorem vx_runSN {y : MethodName} {bytes cc : ByteArray} {maxL nL mc ms n index : Nat} {ret : Option FieldType} {ws : List Cond} {rm : Room} {Pc : Array Value → State → Prop} {Qc : Array Value → State → Outcome → State → Prop} {XC : String → State → State → Prop} {free : Addr → Prop} {Ts : List Cond} {own host : String} {As rest : List Value} {g : JFrame}
    (S : CallFix p m c cc nL s args Ts own) (hM : vx_Met l y ws rm Pc Qc XC mc ms free) (cw : va_CN R s args own index y host bytes maxL ret ws rm mc ms n ∧ (Cond.static y).before args s = true ∧ True) (hp : PreS s H Pc As)
    (hg : g.method = m) (hn : As.length = n) (hsize : g.locals.size = nL) (hstack : g.stack = As.reverse ++ rest) (hW : 2 * g.monitorRoom + (rest.map fun v => v.category).sum ≤ 8) (hdg : decode cc g.pc = .ok (.invokestatic index, 3)) (hf : cells + mc ≤ R.cells ∧ slots + ms ≤ R.slots) :
    vx_Run p l e R s m args below meth c H locs cells slots mc ms g rest (Qc As.toArray) XC free := by
  obtain ⟨⟨⟨hrc, hrs, hfr, hlo, hws, hcw⟩, hcode, hini, hy, hlen, hl⟩, hx1, hx2⟩ := cw
  have hK : vx_Back l R p e below s args y 3 8 (PreOf R mc ms Pc) (PostOf Qc mc ms free) (vx_Post XC mc ms free) := vx_back (bytes := bytes) (maxL := maxL) (ret := ret) hM hp.1 hrc hrs hfr hlo hws hcw (fun a' U hW => word_at hW (Or.inl (by first | rfl | simp [Cond.onTables, Cond.keeps, Cond.steady])) hini)
  obtain ⟨hx, hb, hml, ho, -⟩ := S
  have hPc := hp.2
  intro T hT X
  rcases vx_callSN X hx (bytes := bytes) (maxL := maxL) (ret := ret) ho hl hx1 hini hcode hy hK hg (hsize.trans hml.symm) (argsL := As) (rest := rest) (fun sig h => hn.trans (hlen sig h)) hstack hW (by rw [hb]; exact hdg)
    (fun vm₁ hW₁ => ⟨hf.1, hf.2, hPc (T.setVm vm₁) hT hW₁⟩) with ⟨v, vm₁, ⟨U', l2, c2, s2⟩, hW₁, X', ⟨g', mk, t, L, e1, e2, hq, h1, hL, h2, h3⟩, st⟩ | ⟨q, vm₁, ⟨U', l2, c2, s2⟩, hW₁, X', ⟨g', mk, t, L, E, ce, e1, e2, hq, hce, hcv, hcl, h1, hL, h2, h3⟩, st⟩
  · dsimp only [Pt.U, Pt.locs, Pt.cells, Pt.slots] at X' e1 e2 h1 h2 h3 st
    subst h1; subst h2; subst h3
    exact Or.inl ⟨v, (T.setVm vm₁).calling g' mk As.toArray, t, U', L, hT, X', hL, e1, e2, hq, st⟩
  · dsimp only [Pt.U, Pt.locs, Pt.cells, Pt.slots] at X' e1 e2 h1 h2 h3 st hcl
    subst h1; subst h2; subst h3
    exact Or.inr ⟨q, (T.setVm vm₁).calling g' mk As.toArray, t, U', L, E, ce, hT, X', hL, e1, e2, hq, hce, hcv, vx_cls hW₁ hcl, st⟩
end
/-! ===== END ===== -/
end
section
/-! GW: a walk over a pure heap: references are numbers of cells (0, 1 ..), their addresses a hidden map -/
abbrev gw_K : Type := va_G × ClassId × ClassId × ClassId
abbrev gw_E : Type := vp_A ⊕ (Nat × List Value)
abbrev gw_H : Type := Nat → gw_E
abbrev aI (n : Nat) (f : Nat → Int32) : gw_E := .inl (n, .inl f)
abbrev aJ (n : Nat) (f : Nat → Int64) : gw_E := .inl (n, .inr (.inl f))
abbrev aQ (n : Nat) (f : Nat → Option Nat) : gw_E := .inl (n, .inr (.inr (.inr (.inr f))))
abbrev oB (ci : Nat) (fs : List Value) : gw_E := .inr (ci, fs)
abbrev gw_tys (K : gw_K) : List (ClassId × FieldType) := [(K.2.1, .int), (K.2.2.1, .long), (K.2.2.2, .object RX0)]
def gw_V (ad : Nat → Nat) (v : Value) : Value := match v with
  | .ref k => .ref (ad k)
  | w => w
def gw_ok (n : Nat) (v : Value) : Prop := ∀ k, v = .ref k → k < n
def gw_tr (K : gw_K) (ad : Nat → Nat) (e : gw_E) : va_E := match e with
  | .inl (n, .inl f) => .inl (K.2.1, n, .inl f)
  | .inl (n, .inr (.inl f)) => .inl (K.2.2.1, n, .inr (.inl f))
  | .inl (n, .inr (.inr (.inl f))) => .inl (K.2.1, n, .inr (.inr (.inl f)))
  | .inl (n, .inr (.inr (.inr (.inl f)))) => .inl (K.2.1, n, .inr (.inr (.inr (.inl f))))
  | .inl (n, .inr (.inr (.inr (.inr f)))) => .inl (K.2.2.2, n, .inr (.inr (.inr (.inr (fun j => (f j).map ad)))))
  | .inr (ci, fs) => .inr (ci, fs.map (gw_V ad))
def gw_oke (n : Nat) (e : gw_E) : Prop := match e with
  | .inl (_, .inr (.inr (.inr (.inr f)))) => ∀ j k, f j = some k → k < n
  | .inl _ => True
  | .inr (_, fs) => ∀ v ∈ fs, gw_ok n v
def hs (h : gw_H) (k : Nat) (e : gw_E) : gw_H := fun j => if j = k then e else h j
theorem hs_eq (h : gw_H) (k : Nat) (e : gw_E) : hs h k e k = e := by simp [hs]
theorem hs_ne {h : gw_H} {k j : Nat} {e : gw_E} (hj : j ≠ k) : hs h k e j = h j := by simp [hs, hj]
def gw_ws (K : gw_K) (ad : Nat → Nat) (n : Nat) (h : gw_H) : va_W := (List.range n).map fun k => (ad k, gw_tr K ad (h k))
theorem gw_ws_at {K : gw_K} {ad : Nat → Nat} {n k : Nat} {h : gw_H} (hk : k < n) : (gw_ws K ad n h)[k]? = some (ad k, gw_tr K ad (h k)) := by
  simp [gw_ws, hk]
theorem gw_ws_lt {K : gw_K} {ad : Nat → Nat} {n k : Nat} {h : gw_H} {q : Nat × va_E} (hq : (gw_ws K ad n h)[k]? = some q) : k < n ∧ q = (ad k, gw_tr K ad (h k)) := by
  have hk : k < n := by
    have := (List.getElem?_eq_some_iff.mp hq).1
    simpa [gw_ws] using this
  rw [gw_ws_at hk] at hq
  exact ⟨hk, (Option.some.inj hq).symm⟩
theorem gw_ws_set {K : gw_K} {ad : Nat → Nat} {n k : Nat} {h : gw_H} (hk : k < n) (e : gw_E) : (gw_ws K ad n h).set k (ad k, gw_tr K ad e) = gw_ws K ad n (hs h k e) := by
  apply List.ext_getElem?
  intro j
  rw [List.getElem?_set]
  by_cases hj : k = j
  · subst hj
    rw [if_pos rfl, if_pos (by simpa [gw_ws] using hk), gw_ws_at hk, hs_eq]
  · rw [if_neg hj]
    by_cases hl : j < n
    · rw [gw_ws_at hl, gw_ws_at hl, hs_ne (fun q => hj q.symm)]
    · rw [List.getElem?_eq_none (by simp [gw_ws]; omega), List.getElem?_eq_none (by simp [gw_ws]; omega)]
theorem gw_V_ad {ad ad' : Nat → Nat} {n : Nat} (ha : ∀ k, k < n → ad' k = ad k) {v : Value} (hv : gw_ok n v) : gw_V ad' v = gw_V ad v := by
  cases v with
  | ref k => exact congrArg Value.ref (ha k (hv k rfl))
  | _ => rfl
theorem gw_map_ad {ad ad' : Nat → Nat} {n : Nat} (ha : ∀ k, k < n → ad' k = ad k) {S : List Value} (hv : ∀ v ∈ S, gw_ok n v) : S.map (gw_V ad') = S.map (gw_V ad) :=
  List.map_congr_left fun v h => gw_V_ad ha (hv v h)
theorem gw_tr_ad {K : gw_K} {ad ad' : Nat → Nat} {n : Nat} (ha : ∀ k, k < n → ad' k = ad k) {e : gw_E} (he : gw_oke n e) : gw_tr K ad' e = gw_tr K ad e := by
  obtain ⟨len, f | f | f | f | f⟩ | ⟨ci, fs⟩ := e
  · rfl
  · rfl
  · rfl
  · rfl
  · have e1 : (fun j => (f j).map ad') = (fun j => (f j).map ad) := by
      funext j
      cases hf : f j with
      | none => rfl
      | some k => exact congrArg some (ha k (he j k hf))
    show (Sum.inl (K.2.2.2, len, Sum.inr (Sum.inr (Sum.inr (Sum.inr (fun j => (f j).map ad'))))) : va_E) = _
    rw [e1]; rfl
  · show (Sum.inr (ci, fs.map (gw_V ad')) : va_E) = _
    rw [gw_map_ad ha he]; rfl
theorem gw_ws_ad {K : gw_K} {ad ad' : Nat → Nat} {n : Nat} {h : gw_H} (ha : ∀ k, k < n → ad' k = ad k) (he : ∀ k, k < n → gw_oke n (h k)) : gw_ws K ad' n h = gw_ws K ad n h := by
  unfold gw_ws
  refine List.map_congr_left fun k hk => ?_
  have hk := List.mem_range.mp hk
  rw [ha k hk, gw_tr_ad ha (he k hk)]
theorem gw_ws_push {K : gw_K} {ad ad' : Nat → Nat} {n : Nat} {h : gw_H} {e : gw_E} (ha : ∀ k, k < n → ad' k = ad k) (he : ∀ k, k < n → gw_oke n (h k)) : gw_ws K ad n h ++ [(ad' n, gw_tr K ad' e)] = gw_ws K ad' (n + 1) (hs h n e) := by
  rw [← gw_ws_ad ha he]
  unfold gw_ws
  rw [List.range_succ, List.map_append]
  have e1 : List.map (fun k => (ad' k, gw_tr K ad' (h k))) (List.range n) = List.map (fun k => (ad' k, gw_tr K ad' (hs h n e k))) (List.range n) := by
    refine List.map_congr_left fun k hk => ?_
    have hk := List.mem_range.mp hk
    rw [hs_ne (by omega)]
  rw [e1]
  simp [hs_eq]
theorem gw_ok_up {n n' : Nat} (hn : n ≤ n') {v : Value} (h : gw_ok n v) : gw_ok n' v := fun k e => Nat.lt_of_lt_of_le (h k e) hn
theorem gw_oks_up {n n' : Nat} (hn : n ≤ n') {S : List Value} (h : ∀ v ∈ S, gw_ok n v) : ∀ v ∈ S, gw_ok n' v := fun v hv => gw_ok_up hn (h v hv)
theorem gw_oke_up {n n' : Nat} (hn : n ≤ n') {e : gw_E} (h : gw_oke n e) : gw_oke n' e := by
  obtain ⟨len, f | f | f | f | f⟩ | ⟨ci, fs⟩ := e
  · trivial
  · trivial
  · trivial
  · trivial
  · exact fun j k e => Nat.lt_of_lt_of_le (h j k e) hn
  · exact gw_oks_up hn h
theorem gw_int (n : Nat) (x : Int32) : gw_ok n (.int x) := fun _ h => nomatch h
theorem gw_long (n : Nat) (x : Int64) : gw_ok n (.long x) := fun _ h => nomatch h
theorem gw_dbl (n : Nat) (x : UInt64) : gw_ok n (.double x) := fun _ h => nomatch h
theorem gw_null (n : Nat) : gw_ok n .null := fun _ h => nomatch h
theorem gw_ref {n k : Nat} (h : k < n) : gw_ok n (.ref k) := fun j e => by cases e; exact h
theorem gw_tl {n : Nat} {v : Value} {S : List Value} (h : ∀ w ∈ v :: S, gw_ok n w) : ∀ w ∈ S, gw_ok n w := fun w hw => h w (List.mem_cons_of_mem _ hw)
theorem gw_hd {n : Nat} {v : Value} {S : List Value} (h : ∀ w ∈ v :: S, gw_ok n w) : gw_ok n v := h v List.mem_cons_self
theorem gw_cs {n : Nat} {v : Value} {S : List Value} (h1 : gw_ok n v) (h : ∀ w ∈ S, gw_ok n w) : ∀ w ∈ v :: S, gw_ok n w := List.forall_mem_cons.mpr ⟨h1, h⟩
def gw_R (K : gw_K) (ad : Nat → Nat) (n : Nat) (h : gw_H) (A : Nat → Prop) (H : Heap) : Prop := va_P K.1 vwCl (gw_ws K ad n h) H ∧ va_D A (gw_ws K ad n h) ∧ ∀ k, k < n → gw_oke n (h k)
def gw_L (ad : Nat → Nat) (n nL : Nat) (ls : Array Slot) (L : List (Option Value)) : Prop := ls.size = nL ∧ lv_wf ls ∧ L.length = nL ∧ ∀ (i : Nat) (v : Value), L[i]? = some (some v) → ls[i]? = some (.val (gw_V ad v)) ∧ gw_ok n v
abbrev gw_X : Type := Program × Launch × Env × Room × State × MethodId × Array Value × List Frame × Method × Code × (Nat → Prop) × (State → Prop) × gw_K × (Nat → Nat) × Nat
def GW (X : gw_X) (pc : Nat) (L : List (Option Value)) (S : List Value) (h : gw_H) (n kc ks : Nat) : Prop := match X with
  | (p, l, e, R, s, m, args, below, meth, c, A, Q, K, ad0, n0) =>
    ∀ (ad : Nat → Nat) (H : Heap) (locs : List Loc) (ls : Array Slot), gw_R K ad n h A H → va_S A s.heap H locs → (∀ k, k < n0 → ad k = ad0 k) → n0 ≤ n → gw_L ad n c.maxLocals ls L → (∀ v ∈ S, gw_ok n v) →
      W p l e R s m args below meth c H locs kc ks Q (F0 m pc ls (S.map (gw_V ad)))
/-- a frame over which an exception of class E is thrown -/
def GX (X : gw_X) (pc : Nat) (L : List (Option Value)) (E : String) (h : gw_H) (n kc ks : Nat) : Prop := match X with
  | (p, l, e, R, s, m, args, below, meth, c, A, Q, K, ad0, n0) =>
    ∀ (ad : Nat → Nat) (H : Heap) (locs : List Loc) (ls : Array Slot) (q : Addr) (ce : Cell) (rest : List Value), gw_R K ad n h A H → va_S A s.heap H locs → (∀ k, k < n0 → ad k = ad0 k) → n0 ≤ n → gw_L ad n c.maxLocals ls L →
      H[q]? = some ce → ce.vm = .none → s.vm.findClass E = some ce.cls → vx_W p l e R s m args below meth c H locs kc ks Q (F0 m pc ls rest) q
/-- words that the tables alone don't carry through a call: kept by laws of their own -/
def gw_sp (w : Cond) : Bool := match w with
  | .fieldLinkNest .. => true
  | .methodLinkNest .. => true
  | .castable .. => true
  | .declares .. => true
  | _ => false
def gw_strs : List (Nat × String) := [(239, "there is no such number"), (242, "outside of what is allowed"), (47, "there are 20 ringers"), (84, "the bell has a ringer"), (90, "the ringer rings a bell"), (95, "the ringer rings no bell"), (113, "there are 5 methods"), (121, "a place is in two pairs"), (127, "the method has 12 changes"), (139, "the method is empty"), (161, "the band cannot ring this method")]
def gw_ncs : List (String × String) := [("java/lang/IllegalArgumentException", "java/lang/IndexOutOfBoundsException"), ("java/lang/IllegalStateException", "java/lang/IndexOutOfBoundsException"), ("java/lang/IllegalStateException", "java/lang/IllegalArgumentException")]
def gw_S (U : State) : Prop := (∀ w ∈ lw_tbl, gw_sp w = true → va_Nw w U) ∧ va_AO RX0 U ∧ (∀ q ∈ gw_strs, ∃ a, vk_R RX3 q.1 q.2 a U) ∧ ∀ q ∈ gw_ncs, va_Nc q.1 q.2 U
theorem gw_S.warm {s U : State} (hW : s.WarmedH U.vm) (h : gw_S s) : gw_S U := by
  refine ⟨fun w hw hs => ?_, va_AO.moved hW.alike h.2.1, fun q hq => ?_, fun q hq => va_Nc.moved hW.alike (h.2.2.2 q hq)⟩
  · have h1 := h.1 w hw hs
    cases w <;> first | exact va_Nw.warmF hW h1 | exact va_Nw.warmM hW h1 | exact va_Nw.warmC hW h1 | exact va_Nw.warmD hW h1 | (exact absurd hs (by simp [gw_sp]))
  · obtain ⟨a, ha⟩ := h.2.2.1 q hq
    exact ⟨a, vk_R.warm hW ha⟩
theorem gw_sp_on {w : Cond} (h : gw_sp w = true) : w.onTables = true := by
  cases w <;> first | rfl | (exact absurd h (by simp [gw_sp]))
theorem gw_S.same {s U : State} (hv : s.vm = U.vm) (h : gw_S s) : gw_S U := by
  refine ⟨fun w hw hs => va_Nw.same (gw_sp_on hs) hv (h.1 w hw hs), va_AO.moved (hv ▸ Vm.Alike.refl s.vm) h.2.1, fun q hq => ?_, fun q hq => va_Nc.moved (hv ▸ Vm.Alike.refl s.vm) (h.2.2.2 q hq)⟩
  obtain ⟨a, ha⟩ := h.2.2.1 q hq
  exact ⟨a, vk_R.same hv.symm ha⟩
def gw_fr (ad : Nat → Nat) (n sz : Nat) : Nat → Prop := fun q => (∃ k, k < n ∧ ad k = q) ∨ sz ≤ q
abbrev gw_tN : String := Bundle.tN
def gw_Z (A : Nat → Prop) (U : State) (H : Heap) : Prop := vx_Zq Bundle.tN "UNASSIGNED_STACK" Bundle.steD A U H ∧ vx_Zq Bundle.tN "SUPPRESSED_SENTINEL" Bundle.listD A U H
theorem gw_Z.moved {A : Nat → Prop} {u U : State} {H : Heap} (hvm : u.vm.Alike U.vm) (h : gw_Z A u H) : gw_Z A U H := ⟨vx_Zq.moved hvm h.1, vx_Zq.moved hvm h.2⟩
theorem gw_Z.kept {A : Nat → Prop} {U : State} {H H1 : Heap} (h : gw_Z A U H) (hq : ∀ a : Nat, a < H.size → ¬ A a → H1[a]? = H[a]?) : gw_Z A U H1 := ⟨vx_Zq.kept h.1 hq, vx_Zq.kept h.2 hq⟩
theorem gw_Z.narrow {A B : Nat → Prop} {U : State} {H : Heap} (h : gw_Z A U H) (hAB : ∀ q, B q → A q) : gw_Z B U H := ⟨vx_Zq.narrow h.1 hAB, vx_Zq.narrow h.2 hAB⟩
/-- what is fixed in a frame: the launch, the array classes, the code, its class, its room -/
def FX (l0 : Launch) (K0 : gw_K) (X : gw_X) (cc : ByteArray) (own : String) (F Lo MC MS : Nat) : Prop := match X with
  | (p, l, e, R, s, m, args, below, meth, c, A, Q, K, ad0, n0) =>
    p.tables.exec = Jvm.exec ∧ c.code = cc ∧ s.vm.findClass own = some m.cls ∧ (∀ w ∈ lw_tbl, goodWord w = true → w.before args s = true) ∧ va_K K.1 vwCl (gw_tys K) s ∧ (∀ q, s.heap.size ≤ q → A q) ∧ gw_S s ∧ gw_Z A s s.heap ∧ l = l0 ∧ K = K0 ∧ R = { frames := F, cells := MC, slots := MS, locals := Lo } ∧ l0.stackTraces = false ∧ meth.locks = false
def gw_Q (K : gw_K) (ad0 : Nat → Nat) (n0 sz : Nat) (Post : Option Value → gw_H → Nat → Prop) : Array Value → State → Outcome → State → Prop := fun _ st o t =>
  (∃ (rv : Option Value) (h' : gw_H) (n' : Nat) (ad' : Nat → Nat), o = .returned (rv.map (gw_V ad')) ∧ Post rv h' n' ∧ (∀ k, k < n0 → ad' k = ad0 k) ∧ n0 ≤ n' ∧ gw_R K ad' n' h' (gw_fr ad0 n0 sz) t.heap ∧ ∀ v, rv = some v → gw_ok n' v) ∧ va_F (gw_fr ad0 n0 sz) st t
def gw_XC (K : gw_K) (ad0 : Nat → Nat) (n0 sz : Nat) (PX : String → gw_H → Nat → Prop) : String → State → State → Prop := fun E st t =>
  (∃ (h' : gw_H) (n' : Nat) (ad' : Nat → Nat), PX E h' n' ∧ (∀ k, k < n0 → ad' k = ad0 k) ∧ n0 ≤ n' ∧ gw_R K ad' n' h' (gw_fr ad0 n0 sz) t.heap) ∧ va_F (gw_fr ad0 n0 sz) st t
def gw_P (K : gw_K) (ad : Nat → Nat) (n : Nat) (As : List Value) (h : gw_H) (sz : Nat) : Array Value → State → Prop := fun a U =>
  a = (As.map (gw_V ad)).toArray ∧ U.heap.size = sz ∧ gw_R K ad n h (fun _ => True) U.heap ∧ (∀ v ∈ As, gw_ok n v) ∧ va_K K.1 vwCl (gw_tys K) U ∧ gw_S U ∧ gw_Z (gw_fr ad n sz) U U.heap
/-- a method: its name, code, locals, what it returns, frames, words of locals -/
abbrev gw_M : Type := MethodName × ByteArray × Nat × Option FieldType × Nat × Nat
def gw_w (M : gw_M) : List Cond := .code M.1 M.2.1 M.2.2.1 M.2.2.2.1 :: lw_tbl.filter goodWord
/-- a method's contract at these arguments and this heap of n cells: it ends, or throws; at most mc cells of ms slots are new -/
def Ctr (l : Launch) (K : gw_K) (M : gw_M) (As : List Value) (h : gw_H) (n mc ms : Nat) (Post : Option Value → gw_H → Nat → Prop) (PX : String → gw_H → Nat → Prop) : Prop :=
  ∀ (ad : Nat → Nat) (sz : Nat), vx_Met l M.1 (gw_w M) { frames := M.2.2.2.2.1, cells := mc, slots := ms, locals := M.2.2.2.2.2 } (gw_P K ad n As h sz) (gw_Q K ad n sz Post) (gw_XC K ad n sz PX) mc ms (gw_fr ad n sz)
/-- what a frame owes at its end -/
def RX (X : gw_X) (nm : String) (ret : Option FieldType) (Post : Option Value → gw_H → Nat → Prop) (PX : String → gw_H → Nat → Prop) : Prop := match X with
  | (p, l, e, R, s, m, args, below, meth, c, A, Q, K, ad0, n0) =>
    meth.name = nm ∧ meth.sig.returnType = ret ∧ A = gw_fr ad0 n0 s.heap.size ∧ Q = vx_MQ below (gw_Q K ad0 n0 s.heap.size Post) (gw_XC K ad0 n0 s.heap.size PX) args s R.cells R.slots (gw_fr ad0 n0 s.heap.size)
def gw_sl (vs : List Value) : List (Option Value) := vs.flatMap fun v => if v.category = 2 then [some v, none] else [some v]
def gw_L0 (vs : List Value) (n : Nat) : List (Option Value) := gw_sl vs ++ List.replicate (n - (gw_sl vs).length) none
theorem gw_cat (ad : Nat → Nat) (v : Value) : (gw_V ad v).category = v.category := by cases v <;> rfl
theorem gw_lens (ad : Nat → Nat) (vs : List Value) : (lg_sl (vs.map (gw_V ad))).length = (gw_sl vs).length := by
  induction vs with
  | nil => rfl
  | cons v t ih =>
    show (lg_sl ((gw_V ad v) :: t.map (gw_V ad))).length = _
    unfold lg_sl gw_sl at *
    rw [List.flatMap_cons, List.flatMap_cons, List.length_append, List.length_append, ih, gw_cat]
    split <;> rfl
theorem gw_args (ad : Nat → Nat) (vs : List Value) : ∀ (b i : Nat) (v : Value), (gw_sl vs)[i]? = some (some v) → (b + i, gw_V ad v) ∈ lv_args b (vs.map (gw_V ad)) := by
  induction vs with
  | nil => intro b i v h; simp [gw_sl] at h
  | cons w t ih =>
    intro b i v h
    have hc := gw_cat ad w
    show (b + i, gw_V ad v) ∈ lv_args b (gw_V ad w :: t.map (gw_V ad))
    unfold gw_sl at h
    rw [List.flatMap_cons] at h
    unfold lv_args
    rw [hc]
    by_cases h2 : w.category = 2
    · rw [if_pos h2] at h ⊢
      match i, h with
      | 0, h => simp at h; subst h; exact List.mem_cons_self
      | 1, h => simp at h
      | i + 2, h =>
        have h' : (gw_sl t)[i]? = some (some v) := by simpa [gw_sl] using h
        have := ih (b + 2) i v h'
        rw [show b + (i + 2) = b + 2 + i by omega]
        exact List.mem_cons_of_mem _ this
    · rw [if_neg h2] at h ⊢
      match i, h with
      | 0, h => simp at h; subst h; exact List.mem_cons_self
      | i + 1, h =>
        have h' : (gw_sl t)[i]? = some (some v) := by simpa [gw_sl] using h
        have := ih (b + 1) i v h'
        rw [show b + (i + 1) = b + 1 + i by omega]
        exact List.mem_cons_of_mem _ this
theorem gw_entry {ad : Nat → Nat} {n nL : Nat} {vs : List Value} (h : (gw_sl vs).length ≤ nL) (hok : ∀ v ∈ vs, gw_ok n v) :
    gw_L ad n nL ((lg_sl (vs.map (gw_V ad)) ++ List.replicate (nL - (lg_sl (vs.map (gw_V ad))).length) Slot.unset).toArray) (gw_L0 vs nL) := by
  have hl := lv_entry (vs.map (gw_V ad)) (n := nL) (by rw [gw_lens]; exact h)
  refine ⟨hl.1, hl.2.1, by simp [gw_L0]; omega, fun i v hi => ?_⟩
  have hi' : (gw_sl vs)[i]? = some (some v) := by
    unfold gw_L0 at hi
    rcases Nat.lt_or_ge i (gw_sl vs).length with hlt | hge
    · rwa [List.getElem?_append_left hlt] at hi
    · rw [List.getElem?_append_right hge] at hi
      have := List.mem_of_getElem? hi
      have := List.eq_of_mem_replicate this
      cases this
  have h1 := gw_args ad vs 0 i v hi'
  rw [Nat.zero_add] at h1
  refine ⟨hl.2.2 _ h1, hok v ?_⟩
  have h2 := List.mem_of_getElem? hi'
  unfold gw_sl at h2
  obtain ⟨w, hw, hm⟩ := List.mem_flatMap.mp h2
  split at hm
  · simp at hm; subst hm; exact hw
  · simp at hm; subst hm; exact hw
theorem gw_R.weaken {K : gw_K} {ad : Nat → Nat} {n : Nat} {h : gw_H} {A B : Nat → Prop} {H : Heap} (hR : gw_R K ad n h A H) (hAB : ∀ k, k < n → A (ad k) → B (ad k)) : gw_R K ad n h B H := by
  refine ⟨hR.1, ⟨hR.2.1.1, fun k q hq => ?_⟩, hR.2.2⟩
  obtain ⟨hk, rfl⟩ := gw_ws_lt hq
  exact hAB k hk (hR.2.1.2 k _ hq)
def EX (X : gw_X) (n : Nat) (h : gw_H) : Prop := (∀ x ∈ X.2.2.2.2.2.2.2.2.2.1.exceptionTable.toList, False) ∧ X.2.2.2.2.2.2.2.2.2.2.2.2.2.2 = n ∧ ∀ k, k < n → gw_oke n (h k)
/-- a contract out of a walk of the body, for a method without handlers -/
theorem Ctr.of {l : Launch} {K : gw_K} {M : gw_M} {As : List Value} {h : gw_H} {n mc ms : Nat} {Post : Option Value → gw_H → Nat → Prop} {PX : String → gw_H → Nat → Prop} (hl : l.stackTraces = false) (hy : plainName M.1.cls = true) (hlen : (gw_sl As).length ≤ M.2.2.1)
    (body : ∀ X : gw_X, FX l K X M.2.1 M.1.cls M.2.2.2.2.1 M.2.2.2.2.2 mc ms → RX X M.1.name M.2.2.2.1 Post PX → EX X n h → GW X 0 (gw_L0 As M.2.2.1) [] h n 0 0) : Ctr l K M As h n mc ms Post PX := by
  intro ad sz
  refine vx_ofW (cc := M.2.1) (maxL := M.2.2.1) (ret := M.2.2.2.1) (ws' := lw_tbl.filter goodWord) hy rfl ?_
  intro p e s m args below meth c s₁ B hml htab hP
  obtain ⟨rfl, hsz, hR, hok, hK, hsp, hz⟩ := hP
  have hown : s.vm.findClass M.1.cls = some m.cls := findClass_of_methodNamed B.named
  have hts := atoms_spec (ws := gw_w M) B.pre
  have hts' : ∀ w ∈ lw_tbl, goodWord w = true → w.before ((As.map (gw_V ad)).toArray) s = true := fun w h1 h2 => hts w (List.mem_cons_of_mem _ (List.mem_filter.mpr ⟨h1, h2⟩))
  subst hsz
  have key := body (p, l, e, { frames := M.2.2.2.2.1, cells := mc, slots := ms, locals := M.2.2.2.2.2 }, s, m, (As.map (gw_V ad)).toArray, below, meth, c, gw_fr ad n s.heap.size, vx_MQ below (gw_Q K ad n s.heap.size Post) (gw_XC K ad n s.heap.size PX) ((As.map (gw_V ad)).toArray) s mc ms (gw_fr ad n s.heap.size), K, ad, n)
    ⟨B.exec, B.bytes, hown, hts', hK, fun q hq => Or.inr hq, hsp, hz, rfl, rfl, rfl, hl, B.notSynchronized⟩ ⟨(name_of_methodNamed B.named B.method).1, B.returns, rfl, rfl⟩ ⟨htab, rfl, hR.2.2⟩
  rw [lg_entry_eq]
  refine key ad s.heap [] _ (hR.weaken fun k hk _ => Or.inl ⟨k, hk, rfl⟩) va_S.rf (fun _ _ => rfl) (Nat.le_refl _) ?_ (fun v hv => by cases hv)
  rw [hml]
  exact gw_entry hlen hok
end
section
def gw_al (ad : Nat → Nat) (L : List (Option Value)) : List (Nat × Value) := (List.range L.length).filterMap fun i => (L[i]?.join).map fun v => (i, gw_V ad v)
theorem gw_al_mem {ad : Nat → Nat} {L : List (Option Value)} {i : Nat} {v : Value} (h : L[i]? = some (some v)) : (i, gw_V ad v) ∈ gw_al ad L := by
  unfold gw_al
  refine List.mem_filterMap.mpr ⟨i, List.mem_range.mpr (List.getElem?_eq_some_iff.mp h).1, ?_⟩
  rw [h]; rfl
theorem gw_al_of {ad : Nat → Nat} {L : List (Option Value)} {q : Nat × Value} (h : q ∈ gw_al ad L) : ∃ v, L[q.1]? = some (some v) ∧ q.2 = gw_V ad v := by
  unfold gw_al at h
  obtain ⟨i, -, hi⟩ := List.mem_filterMap.mp h
  cases hL : L[i]? with
  | none => rw [hL] at hi; cases hi
  | some o =>
    cases o with
    | none => rw [hL] at hi; cases hi
    | some v =>
      rw [hL] at hi
      cases hi
      exact ⟨v, hL, rfl⟩
theorem gw_L.has {ad : Nat → Nat} {n nL : Nat} {ls : Array Slot} {L : List (Option Value)} (h : gw_L ad n nL ls L) : lv_has ls nL (gw_al ad L) := by
  refine ⟨h.1, h.2.1, fun q hq => ?_⟩
  obtain ⟨v, h1, h2⟩ := gw_al_of hq
  rw [h2]
  exact (h.2.2.2 _ _ h1).1
def gw_k (L : List (Option Value)) (i : Nat) : Bool := match i with
  | 0 => true
  | j + 1 => match L[j]? with
    | some (some v) => v.category != 2
    | _ => true
theorem gw_k_of {L : List (Option Value)} {i j : Nat} {v : Value} (h : gw_k L i = true) (hj : j + 1 = i) (hv : L[j]? = some (some v)) : ¬ v.category = 2 := by
  subst hj
  simp only [gw_k, hv] at h
  simpa using h
theorem gw_L.st1 {ad : Nat → Nat} {n nL i : Nat} {ls ls' : Array Slot} {L : List (Option Value)} {v : Value} (h : gw_L ad n nL ls L) (hk : gw_k L i = true) (hok : gw_ok n v)
    (h' : lv_has ls' nL ((i, gw_V ad v) :: (gw_al ad L).filter (fun q => !(q.1 == i) && !(q.1 + 1 == i && q.2.category == 2)))) : gw_L ad n nL ls' (L.set i (some v)) := by
  refine ⟨h'.1, h'.2.1, by rw [List.length_set]; exact h.2.2.1, fun j w hj => ?_⟩
  rw [List.getElem?_set] at hj
  by_cases e : i = j
  · subst e
    rw [if_pos rfl] at hj
    split at hj
    · cases hj
      exact ⟨h'.2.2 _ List.mem_cons_self, hok⟩
    · cases hj
  · rw [if_neg e] at hj
    refine ⟨h'.2.2 (j, gw_V ad w) (List.mem_cons_of_mem _ (List.mem_filter.mpr ⟨gw_al_mem hj, ?_⟩)), (h.2.2.2 _ _ hj).2⟩
    simp only [Bool.and_eq_true, Bool.not_eq_true', beq_eq_false_iff_ne, Bool.and_eq_false_iff, gw_cat]
    refine ⟨fun q => e q.symm, ?_⟩
    by_cases e2 : j + 1 = i
    · exact Or.inr (gw_k_of hk e2 hj)
    · exact Or.inl e2
theorem gw_L.st2 {ad : Nat → Nat} {n nL i : Nat} {ls ls' : Array Slot} {L : List (Option Value)} {v : Value} (h : gw_L ad n nL ls L) (hk : gw_k L i = true) (hok : gw_ok n v)
    (h' : lv_has ls' nL ((i, gw_V ad v) :: (gw_al ad L).filter (fun q => !(q.1 == i) && (!(q.1 == i + 1) && !(q.1 + 1 == i && q.2.category == 2))))) : gw_L ad n nL ls' ((L.set i (some v)).set (i + 1) none) := by
  refine ⟨h'.1, h'.2.1, by rw [List.length_set, List.length_set]; exact h.2.2.1, fun j w hj => ?_⟩
  rw [List.getElem?_set] at hj
  by_cases e1 : i + 1 = j
  · subst e1
    rw [if_pos rfl] at hj
    split at hj <;> cases hj
  · rw [if_neg e1, List.getElem?_set] at hj
    by_cases e : i = j
    · subst e
      rw [if_pos rfl] at hj
      split at hj
      · cases hj
        exact ⟨h'.2.2 _ List.mem_cons_self, hok⟩
      · cases hj
    · rw [if_neg e] at hj
      refine ⟨h'.2.2 (j, gw_V ad w) (List.mem_cons_of_mem _ (List.mem_filter.mpr ⟨gw_al_mem hj, ?_⟩)), (h.2.2.2 _ _ hj).2⟩
      simp only [Bool.and_eq_true, Bool.not_eq_true', beq_eq_false_iff_ne, Bool.and_eq_false_iff, gw_cat]
      refine ⟨fun q => e q.symm, fun q => e1 q.symm, ?_⟩
      by_cases e2 : j + 1 = i
      · exact Or.inr (gw_k_of hk e2 hj)
      · exact Or.inl e2
theorem gw_L.ad {ad ad' : Nat → Nat} {n n' nL : Nat} {ls : Array Slot} {L : List (Option Value)} (h : gw_L ad n nL ls L) (he : ∀ k, k < n → ad' k = ad k) (hn : n ≤ n') : gw_L ad' n' nL ls L :=
  ⟨h.1, h.2.1, h.2.2.1, fun i v hi => by
    obtain ⟨h1, h2⟩ := h.2.2.2 i v hi
    rw [gw_V_ad he h2]
    exact ⟨h1, gw_ok_up hn h2⟩⟩
theorem gw_len {L : List (Option Value)} {i : Nat} {v : Option Value} (h : L[i]? = some v) : i < L.length := (List.getElem?_eq_some_iff.mp h).1
theorem g_iconst {l : Launch} {K : gw_K} {X : gw_X} {cc : ByteArray} {own : String} {F Lo MC MS pc : Nat} {L : List (Option Value)} {S : List Value} {h : gw_H} {n kc ks : Nat} {nn : Int} {v : Int32} (hX : FX l K X cc own F Lo MC MS) (hd : decode cc pc = .ok (.iconst nn, 1)) (hc : Int32.ofInt nn = v) (k : GW X (pc + 1) L (.int v :: S) h n kc ks) : GW X pc L S h n kc ks := by
  obtain ⟨p, l1, e, R, s, m, args, below, meth, c, A, Q, K1, ad0, n0⟩ := X
  obtain ⟨hx, hb, hown, hts, hK, hA, hsp, hz, rfl, rfl, rfl, hst, hlk⟩ := hX
  intro ad H locs ls hR hS ha hn hL hv
  exact lv_iconst hx hb hd hc (k ad H locs ls hR hS ha hn hL (gw_cs (gw_int n v) hv))
theorem g_bipush {l : Launch} {K : gw_K} {X : gw_X} {cc : ByteArray} {own : String} {F Lo MC MS pc : Nat} {L : List (Option Value)} {S : List Value} {h : gw_H} {n kc ks : Nat} {nn : Int} {v : Int32} (hX : FX l K X cc own F Lo MC MS) (hd : decode cc pc = .ok (.bipush nn, 2)) (hc : (Int8.ofInt nn).toInt32 = v) (k : GW X (pc + 2) L (.int v :: S) h n kc ks) : GW X pc L S h n kc ks := by
  obtain ⟨p, l1, e, R, s, m, args, below, meth, c, A, Q, K1, ad0, n0⟩ := X
  obtain ⟨hx, hb, hown, hts, hK, hA, hsp, hz, rfl, rfl, rfl, hst, hlk⟩ := hX
  intro ad H locs ls hR hS ha hn hL hv
  exact lv_bipush hx hb hd hc (k ad H locs ls hR hS ha hn hL (gw_cs (gw_int n v) hv))
theorem g_sipush {l : Launch} {K : gw_K} {X : gw_X} {cc : ByteArray} {own : String} {F Lo MC MS pc : Nat} {L : List (Option Value)} {S : List Value} {h : gw_H} {n kc ks : Nat} {nn : Int} {v : Int32} (hX : FX l K X cc own F Lo MC MS) (hd : decode cc pc = .ok (.sipush nn, 3)) (hc : (Int16.ofInt nn).toInt32 = v) (k : GW X (pc + 3) L (.int v :: S) h n kc ks) : GW X pc L S h n kc ks := by
  obtain ⟨p, l1, e, R, s, m, args, below, meth, c, A, Q, K1, ad0, n0⟩ := X
  obtain ⟨hx, hb, hown, hts, hK, hA, hsp, hz, rfl, rfl, rfl, hst, hlk⟩ := hX
  intro ad H locs ls hR hS ha hn hL hv
  exact lv_sipush hx hb hd hc (k ad H locs ls hR hS ha hn hL (gw_cs (gw_int n v) hv))
theorem g_lconst {l : Launch} {K : gw_K} {X : gw_X} {cc : ByteArray} {own : String} {F Lo MC MS pc : Nat} {L : List (Option Value)} {S : List Value} {h : gw_H} {n kc ks : Nat} {nn : Fin 2} {v : Int64} (hX : FX l K X cc own F Lo MC MS) (hd : decode cc pc = .ok (.lconst nn, 1)) (hc : Int64.ofNat (nn : Nat) = v) (k : GW X (pc + 1) L (.long v :: S) h n kc ks) : GW X pc L S h n kc ks := by
  obtain ⟨p, l1, e, R, s, m, args, below, meth, c, A, Q, K1, ad0, n0⟩ := X
  obtain ⟨hx, hb, hown, hts, hK, hA, hsp, hz, rfl, rfl, rfl, hst, hlk⟩ := hX
  intro ad H locs ls hR hS ha hn hL hv
  exact lv_lconst hx hb hd hc (k ad H locs ls hR hS ha hn hL (gw_cs (gw_long n v) hv))
theorem g_dconst0 {l : Launch} {K : gw_K} {X : gw_X} {cc : ByteArray} {own : String} {F Lo MC MS pc : Nat} {L : List (Option Value)} {S : List Value} {h : gw_H} {n kc ks : Nat}  (hX : FX l K X cc own F Lo MC MS) (hd : decode cc pc = .ok (.dconst 0, 1)) (k : GW X (pc + 1) L (.double 0 :: S) h n kc ks) : GW X pc L S h n kc ks := by
  obtain ⟨p, l1, e, R, s, m, args, below, meth, c, A, Q, K1, ad0, n0⟩ := X
  obtain ⟨hx, hb, hown, hts, hK, hA, hsp, hz, rfl, rfl, rfl, hst, hlk⟩ := hX
  intro ad H locs ls hR hS ha hn hL hv
  exact lv_dconst0 hx hb hd (k ad H locs ls hR hS ha hn hL (gw_cs (gw_dbl n 0) hv))
theorem g_ldc2 {l : Launch} {K : gw_K} {X : gw_X} {cc : ByteArray} {own : String} {F Lo MC MS pc : Nat} {L : List (Option Value)} {S : List Value} {h : gw_H} {n kc ks : Nat} {idx : Nat} {v : Int64} (hX : FX l K X cc own F Lo MC MS) (hd : decode cc pc = .ok (.ldc2_w idx, 3)) (hc : Cond.constantLong own idx v ∈ lw_tbl) (k : GW X (pc + 3) L (.long v :: S) h n kc ks) : GW X pc L S h n kc ks := by
  obtain ⟨p, l1, e, R, s, m, args, below, meth, c, A, Q, K1, ad0, n0⟩ := X
  obtain ⟨hx, hb, hown, hts, hK, hA, hsp, hz, rfl, rfl, rfl, hst, hlk⟩ := hX
  intro ad H locs ls hR hS ha hn hL hv
  exact lv_ldc2 hx hb hown (hts _ hc rfl) hd (k ad H locs ls hR hS ha hn hL (gw_cs (gw_long n v) hv))
theorem g_iload_n {l : Launch} {K : gw_K} {X : gw_X} {cc : ByteArray} {own : String} {F Lo MC MS pc : Nat} {L : List (Option Value)} {S : List Value} {h : gw_H} {n kc ks : Nat} {q : Fin 4} {i : Nat} {x : Int32} (hX : FX l K X cc own F Lo MC MS) (hd : decode cc pc = .ok (.iload_n q, 1)) (hi : (q : Nat) = i) (hl : L[i]? = some (some (.int x))) (k : GW X (pc + 1) L (.int x :: S) h n kc ks) : GW X pc L S h n kc ks := by
  obtain ⟨p, l1, e, R, s, m, args, below, meth, c, A, Q, K1, ad0, n0⟩ := X
  obtain ⟨hx, hb, hown, hts, hK, hA, hsp, hz, rfl, rfl, rfl, hst, hlk⟩ := hX
  intro ad H locs ls hR hS ha hn hL hv
  exact lv_iload_n hx hb hd hi (hL.2.2.2 _ _ hl).1 (k ad H locs ls hR hS ha hn hL (gw_cs (gw_int n x) hv))
theorem g_iload {l : Launch} {K : gw_K} {X : gw_X} {cc : ByteArray} {own : String} {F Lo MC MS pc : Nat} {L : List (Option Value)} {S : List Value} {h : gw_H} {n kc ks : Nat} {i : Nat} {x : Int32} (hX : FX l K X cc own F Lo MC MS) (hd : decode cc pc = .ok (.iload i, 2)) (hl : L[i]? = some (some (.int x))) (k : GW X (pc + 2) L (.int x :: S) h n kc ks) : GW X pc L S h n kc ks := by
  obtain ⟨p, l1, e, R, s, m, args, below, meth, c, A, Q, K1, ad0, n0⟩ := X
  obtain ⟨hx, hb, hown, hts, hK, hA, hsp, hz, rfl, rfl, rfl, hst, hlk⟩ := hX
  intro ad H locs ls hR hS ha hn hL hv
  exact lv_iload hx hb hd (hL.2.2.2 _ _ hl).1 (k ad H locs ls hR hS ha hn hL (gw_cs (gw_int n x) hv))
theorem g_lload_n {l : Launch} {K : gw_K} {X : gw_X} {cc : ByteArray} {own : String} {F Lo MC MS pc : Nat} {L : List (Option Value)} {S : List Value} {h : gw_H} {n kc ks : Nat} {q : Fin 4} {i : Nat} {x : Int64} (hX : FX l K X cc own F Lo MC MS) (hd : decode cc pc = .ok (.lload_n q, 1)) (hi : (q : Nat) = i) (hl : L[i]? = some (some (.long x))) (k : GW X (pc + 1) L (.long x :: S) h n kc ks) : GW X pc L S h n kc ks := by
  obtain ⟨p, l1, e, R, s, m, args, below, meth, c, A, Q, K1, ad0, n0⟩ := X
  obtain ⟨hx, hb, hown, hts, hK, hA, hsp, hz, rfl, rfl, rfl, hst, hlk⟩ := hX
  intro ad H locs ls hR hS ha hn hL hv
  exact lv_lload_n hx hb hd hi (hL.2.2.2 _ _ hl).1 (k ad H locs ls hR hS ha hn hL (gw_cs (gw_long n x) hv))
theorem g_lload {l : Launch} {K : gw_K} {X : gw_X} {cc : ByteArray} {own : String} {F Lo MC MS pc : Nat} {L : List (Option Value)} {S : List Value} {h : gw_H} {n kc ks : Nat} {i : Nat} {x : Int64} (hX : FX l K X cc own F Lo MC MS) (hd : decode cc pc = .ok (.lload i, 2)) (hl : L[i]? = some (some (.long x))) (k : GW X (pc + 2) L (.long x :: S) h n kc ks) : GW X pc L S h n kc ks := by
  obtain ⟨p, l1, e, R, s, m, args, below, meth, c, A, Q, K1, ad0, n0⟩ := X
  obtain ⟨hx, hb, hown, hts, hK, hA, hsp, hz, rfl, rfl, rfl, hst, hlk⟩ := hX
  intro ad H locs ls hR hS ha hn hL hv
  exact lv_lload hx hb hd (hL.2.2.2 _ _ hl).1 (k ad H locs ls hR hS ha hn hL (gw_cs (gw_long n x) hv))
theorem g_aload_n {l : Launch} {K : gw_K} {X : gw_X} {cc : ByteArray} {own : String} {F Lo MC MS pc : Nat} {L : List (Option Value)} {S : List Value} {h : gw_H} {n kc ks : Nat} {q : Fin 4} {i : Nat} {x : Nat} (hX : FX l K X cc own F Lo MC MS) (hd : decode cc pc = .ok (.aload_n q, 1)) (hi : (q : Nat) = i) (hl : L[i]? = some (some (.ref x))) (k : GW X (pc + 1) L (.ref x :: S) h n kc ks) : GW X pc L S h n kc ks := by
  obtain ⟨p, l1, e, R, s, m, args, below, meth, c, A, Q, K1, ad0, n0⟩ := X
  obtain ⟨hx, hb, hown, hts, hK, hA, hsp, hz, rfl, rfl, rfl, hst, hlk⟩ := hX
  intro ad H locs ls hR hS ha hn hL hv
  exact lv_aload_n hx hb hd hi (hL.2.2.2 _ _ hl).1 (k ad H locs ls hR hS ha hn hL (gw_cs (hL.2.2.2 _ _ hl).2 hv))
theorem g_aload {l : Launch} {K : gw_K} {X : gw_X} {cc : ByteArray} {own : String} {F Lo MC MS pc : Nat} {L : List (Option Value)} {S : List Value} {h : gw_H} {n kc ks : Nat} {i : Nat} {x : Nat} (hX : FX l K X cc own F Lo MC MS) (hd : decode cc pc = .ok (.aload i, 2)) (hl : L[i]? = some (some (.ref x))) (k : GW X (pc + 2) L (.ref x :: S) h n kc ks) : GW X pc L S h n kc ks := by
  obtain ⟨p, l1, e, R, s, m, args, below, meth, c, A, Q, K1, ad0, n0⟩ := X
  obtain ⟨hx, hb, hown, hts, hK, hA, hsp, hz, rfl, rfl, rfl, hst, hlk⟩ := hX
  intro ad H locs ls hR hS ha hn hL hv
  exact lv_aload hx hb hd (hL.2.2.2 _ _ hl).1 (k ad H locs ls hR hS ha hn hL (gw_cs (hL.2.2.2 _ _ hl).2 hv))
theorem g_dload_n {l : Launch} {K : gw_K} {X : gw_X} {cc : ByteArray} {own : String} {F Lo MC MS pc : Nat} {L : List (Option Value)} {S : List Value} {h : gw_H} {n kc ks : Nat} {q : Fin 4} {i : Nat} {x : UInt64} (hX : FX l K X cc own F Lo MC MS) (hd : decode cc pc = .ok (.dload_n q, 1)) (hi : (q : Nat) = i) (hl : L[i]? = some (some (.double x))) (k : GW X (pc + 1) L (.double x :: S) h n kc ks) : GW X pc L S h n kc ks := by
  obtain ⟨p, l1, e, R, s, m, args, below, meth, c, A, Q, K1, ad0, n0⟩ := X
  obtain ⟨hx, hb, hown, hts, hK, hA, hsp, hz, rfl, rfl, rfl, hst, hlk⟩ := hX
  intro ad H locs ls hR hS ha hn hL hv
  exact lv_dload_n hx hb hd hi (hL.2.2.2 _ _ hl).1 (k ad H locs ls hR hS ha hn hL (gw_cs (gw_dbl n x) hv))
theorem g_dload {l : Launch} {K : gw_K} {X : gw_X} {cc : ByteArray} {own : String} {F Lo MC MS pc : Nat} {L : List (Option Value)} {S : List Value} {h : gw_H} {n kc ks : Nat} {i : Nat} {x : UInt64} (hX : FX l K X cc own F Lo MC MS) (hd : decode cc pc = .ok (.dload i, 2)) (hl : L[i]? = some (some (.double x))) (k : GW X (pc + 2) L (.double x :: S) h n kc ks) : GW X pc L S h n kc ks := by
  obtain ⟨p, l1, e, R, s, m, args, below, meth, c, A, Q, K1, ad0, n0⟩ := X
  obtain ⟨hx, hb, hown, hts, hK, hA, hsp, hz, rfl, rfl, rfl, hst, hlk⟩ := hX
  intro ad H locs ls hR hS ha hn hL hv
  exact lv_dload hx hb hd (hL.2.2.2 _ _ hl).1 (k ad H locs ls hR hS ha hn hL (gw_cs (gw_dbl n x) hv))
theorem g_istore_n {l : Launch} {K : gw_K} {X : gw_X} {cc : ByteArray} {own : String} {F Lo MC MS pc : Nat} {L : List (Option Value)} {S : List Value} {h : gw_H} {n kc ks : Nat} {q : Fin 4} {i : Nat} {x : Int32} (hX : FX l K X cc own F Lo MC MS) (hd : decode cc pc = .ok (.istore_n q, 1)) (hi : (q : Nat) = i) (hi2 : i < L.length) (hk : gw_k L i = true) (k : GW X (pc + 1) (L.set i (some (.int x))) S h n kc ks) : GW X pc L (.int x :: S) h n kc ks := by
  obtain ⟨p, l1, e, R, s, m, args, below, meth, c, A, Q, K1, ad0, n0⟩ := X
  obtain ⟨hx, hb, hown, hts, hK, hA, hsp, hz, rfl, rfl, rfl, hst, hlk⟩ := hX
  intro ad H locs ls hR hS ha hn hL hv
  exact lv_istore_n hx hb hd hi  hL.has (by rw [← hL.2.2.1]; exact hi2) rfl (fun ls1 hl1 => k ad H locs ls1 hR hS ha hn (hL.st1 hk (gw_hd hv) hl1) (gw_tl hv))
theorem g_istore {l : Launch} {K : gw_K} {X : gw_X} {cc : ByteArray} {own : String} {F Lo MC MS pc : Nat} {L : List (Option Value)} {S : List Value} {h : gw_H} {n kc ks : Nat} {i : Nat} {x : Int32} (hX : FX l K X cc own F Lo MC MS) (hd : decode cc pc = .ok (.istore i, 2)) (hi2 : i < L.length) (hk : gw_k L i = true) (k : GW X (pc + 2) (L.set i (some (.int x))) S h n kc ks) : GW X pc L (.int x :: S) h n kc ks := by
  obtain ⟨p, l1, e, R, s, m, args, below, meth, c, A, Q, K1, ad0, n0⟩ := X
  obtain ⟨hx, hb, hown, hts, hK, hA, hsp, hz, rfl, rfl, rfl, hst, hlk⟩ := hX
  intro ad H locs ls hR hS ha hn hL hv
  exact lv_istore hx hb hd  hL.has (by rw [← hL.2.2.1]; exact hi2) rfl (fun ls1 hl1 => k ad H locs ls1 hR hS ha hn (hL.st1 hk (gw_hd hv) hl1) (gw_tl hv))
theorem g_astore_n {l : Launch} {K : gw_K} {X : gw_X} {cc : ByteArray} {own : String} {F Lo MC MS pc : Nat} {L : List (Option Value)} {S : List Value} {h : gw_H} {n kc ks : Nat} {q : Fin 4} {i : Nat} {x : Nat} (hX : FX l K X cc own F Lo MC MS) (hd : decode cc pc = .ok (.astore_n q, 1)) (hi : (q : Nat) = i) (hi2 : i < L.length) (hk : gw_k L i = true) (k : GW X (pc + 1) (L.set i (some (.ref x))) S h n kc ks) : GW X pc L (.ref x :: S) h n kc ks := by
  obtain ⟨p, l1, e, R, s, m, args, below, meth, c, A, Q, K1, ad0, n0⟩ := X
  obtain ⟨hx, hb, hown, hts, hK, hA, hsp, hz, rfl, rfl, rfl, hst, hlk⟩ := hX
  intro ad H locs ls hR hS ha hn hL hv
  exact lv_astore_n hx hb hd hi  hL.has (by rw [← hL.2.2.1]; exact hi2) rfl (fun ls1 hl1 => k ad H locs ls1 hR hS ha hn (hL.st1 hk (gw_hd hv) hl1) (gw_tl hv))
theorem g_astore {l : Launch} {K : gw_K} {X : gw_X} {cc : ByteArray} {own : String} {F Lo MC MS pc : Nat} {L : List (Option Value)} {S : List Value} {h : gw_H} {n kc ks : Nat} {i : Nat} {x : Nat} (hX : FX l K X cc own F Lo MC MS) (hd : decode cc pc = .ok (.astore i, 2)) (hi2 : i < L.length) (hk : gw_k L i = true) (k : GW X (pc + 2) (L.set i (some (.ref x))) S h n kc ks) : GW X pc L (.ref x :: S) h n kc ks := by
  obtain ⟨p, l1, e, R, s, m, args, below, meth, c, A, Q, K1, ad0, n0⟩ := X
  obtain ⟨hx, hb, hown, hts, hK, hA, hsp, hz, rfl, rfl, rfl, hst, hlk⟩ := hX
  intro ad H locs ls hR hS ha hn hL hv
  exact lv_astore hx hb hd  hL.has (by rw [← hL.2.2.1]; exact hi2) rfl (fun ls1 hl1 => k ad H locs ls1 hR hS ha hn (hL.st1 hk (gw_hd hv) hl1) (gw_tl hv))
theorem g_lstore_n {l : Launch} {K : gw_K} {X : gw_X} {cc : ByteArray} {own : String} {F Lo MC MS pc : Nat} {L : List (Option Value)} {S : List Value} {h : gw_H} {n kc ks : Nat} {q : Fin 4} {i : Nat} {x : Int64} (hX : FX l K X cc own F Lo MC MS) (hd : decode cc pc = .ok (.lstore_n q, 1)) (hi : (q : Nat) = i) (hi2 : i + 1 < L.length) (hk : gw_k L i = true) (k : GW X (pc + 1) ((L.set i (some (.long x))).set (i + 1) none) S h n kc ks) : GW X pc L (.long x :: S) h n kc ks := by
  obtain ⟨p, l1, e, R, s, m, args, below, meth, c, A, Q, K1, ad0, n0⟩ := X
  obtain ⟨hx, hb, hown, hts, hK, hA, hsp, hz, rfl, rfl, rfl, hst, hlk⟩ := hX
  intro ad H locs ls hR hS ha hn hL hv
  exact lv_lstore_n hx hb hd hi  hL.has (by rw [← hL.2.2.1]; exact hi2) rfl (fun ls1 hl1 => k ad H locs ls1 hR hS ha hn (hL.st2 hk (gw_hd hv) hl1) (gw_tl hv))
theorem g_lstore {l : Launch} {K : gw_K} {X : gw_X} {cc : ByteArray} {own : String} {F Lo MC MS pc : Nat} {L : List (Option Value)} {S : List Value} {h : gw_H} {n kc ks : Nat} {i : Nat} {x : Int64} (hX : FX l K X cc own F Lo MC MS) (hd : decode cc pc = .ok (.lstore i, 2)) (hi2 : i + 1 < L.length) (hk : gw_k L i = true) (k : GW X (pc + 2) ((L.set i (some (.long x))).set (i + 1) none) S h n kc ks) : GW X pc L (.long x :: S) h n kc ks := by
  obtain ⟨p, l1, e, R, s, m, args, below, meth, c, A, Q, K1, ad0, n0⟩ := X
  obtain ⟨hx, hb, hown, hts, hK, hA, hsp, hz, rfl, rfl, rfl, hst, hlk⟩ := hX
  intro ad H locs ls hR hS ha hn hL hv
  exact lv_lstore hx hb hd  hL.has (by rw [← hL.2.2.1]; exact hi2) rfl (fun ls1 hl1 => k ad H locs ls1 hR hS ha hn (hL.st2 hk (gw_hd hv) hl1) (gw_tl hv))
theorem g_dstore_n {l : Launch} {K : gw_K} {X : gw_X} {cc : ByteArray} {own : String} {F Lo MC MS pc : Nat} {L : List (Option Value)} {S : List Value} {h : gw_H} {n kc ks : Nat} {q : Fin 4} {i : Nat} {x : UInt64} (hX : FX l K X cc own F Lo MC MS) (hd : decode cc pc = .ok (.dstore_n q, 1)) (hi : (q : Nat) = i) (hi2 : i + 1 < L.length) (hk : gw_k L i = true) (k : GW X (pc + 1) ((L.set i (some (.double x))).set (i + 1) none) S h n kc ks) : GW X pc L (.double x :: S) h n kc ks := by
  obtain ⟨p, l1, e, R, s, m, args, below, meth, c, A, Q, K1, ad0, n0⟩ := X
  obtain ⟨hx, hb, hown, hts, hK, hA, hsp, hz, rfl, rfl, rfl, hst, hlk⟩ := hX
  intro ad H locs ls hR hS ha hn hL hv
  exact lv_dstore_n hx hb hd hi  hL.has (by rw [← hL.2.2.1]; exact hi2) rfl (fun ls1 hl1 => k ad H locs ls1 hR hS ha hn (hL.st2 hk (gw_hd hv) hl1) (gw_tl hv))
theorem g_dstore {l : Launch} {K : gw_K} {X : gw_X} {cc : ByteArray} {own : String} {F Lo MC MS pc : Nat} {L : List (Option Value)} {S : List Value} {h : gw_H} {n kc ks : Nat} {i : Nat} {x : UInt64} (hX : FX l K X cc own F Lo MC MS) (hd : decode cc pc = .ok (.dstore i, 2)) (hi2 : i + 1 < L.length) (hk : gw_k L i = true) (k : GW X (pc + 2) ((L.set i (some (.double x))).set (i + 1) none) S h n kc ks) : GW X pc L (.double x :: S) h n kc ks := by
  obtain ⟨p, l1, e, R, s, m, args, below, meth, c, A, Q, K1, ad0, n0⟩ := X
  obtain ⟨hx, hb, hown, hts, hK, hA, hsp, hz, rfl, rfl, rfl, hst, hlk⟩ := hX
  intro ad H locs ls hR hS ha hn hL hv
  exact lv_dstore hx hb hd  hL.has (by rw [← hL.2.2.1]; exact hi2) rfl (fun ls1 hl1 => k ad H locs ls1 hR hS ha hn (hL.st2 hk (gw_hd hv) hl1) (gw_tl hv))
theorem g_iinc {l : Launch} {K : gw_K} {X : gw_X} {cc : ByteArray} {own : String} {F Lo MC MS pc : Nat} {L : List (Option Value)} {S : List Value} {h : gw_H} {n kc ks : Nat} {i : Nat} {nn : Int} {x v : Int32} (hX : FX l K X cc own F Lo MC MS) (hd : decode cc pc = .ok (.iinc i nn, 3)) (hl : L[i]? = some (some (.int x))) (hk : gw_k L i = true) (hc : x + Int32.ofInt nn = v) (k : GW X (pc + 3) (L.set i (some (.int v))) S h n kc ks) : GW X pc L S h n kc ks := by
  obtain ⟨p, l1, e, R, s, m, args, below, meth, c, A, Q, K1, ad0, n0⟩ := X
  obtain ⟨hx, hb, hown, hts, hK, hA, hsp, hz, rfl, rfl, rfl, hst, hlk⟩ := hX
  intro ad H locs ls hR hS ha hn hL hv
  obtain ⟨k0, hk0⟩ := List.getElem?_of_mem (gw_al_mem (ad := ad) hl)
  exact lv_iinc hx hb hd hL.has hk0 hc (by rw [← hL.2.2.1]; exact gw_len hl) rfl (fun ls1 hl1 => k ad H locs ls1 hR hS ha hn (hL.st1 (v := .int v) hk (gw_int n v) hl1) hv)
theorem g_iadd {l : Launch} {K : gw_K} {X : gw_X} {cc : ByteArray} {own : String} {F Lo MC MS pc : Nat} {L : List (Option Value)} {S : List Value} {h : gw_H} {n kc ks : Nat} {x y : Int32} (hX : FX l K X cc own F Lo MC MS) (hd : decode cc pc = .ok (.iadd, 1)) (k : GW X (pc + 1) L (.int (x + y) :: S) h n kc ks) : GW X pc L (.int y :: .int x :: S) h n kc ks := by
  obtain ⟨p, l1, e, R, s, m, args, below, meth, c, A, Q, K1, ad0, n0⟩ := X
  obtain ⟨hx, hb, hown, hts, hK, hA, hsp, hz, rfl, rfl, rfl, hst, hlk⟩ := hX
  intro ad H locs ls hR hS ha hn hL hv
  exact lv_iadd hx hb hd (k ad H locs ls hR hS ha hn hL (gw_cs (gw_int n _) (gw_tl (gw_tl hv))))
theorem g_isub {l : Launch} {K : gw_K} {X : gw_X} {cc : ByteArray} {own : String} {F Lo MC MS pc : Nat} {L : List (Option Value)} {S : List Value} {h : gw_H} {n kc ks : Nat} {x y : Int32} (hX : FX l K X cc own F Lo MC MS) (hd : decode cc pc = .ok (.isub, 1)) (k : GW X (pc + 1) L (.int (x - y) :: S) h n kc ks) : GW X pc L (.int y :: .int x :: S) h n kc ks := by
  obtain ⟨p, l1, e, R, s, m, args, below, meth, c, A, Q, K1, ad0, n0⟩ := X
  obtain ⟨hx, hb, hown, hts, hK, hA, hsp, hz, rfl, rfl, rfl, hst, hlk⟩ := hX
  intro ad H locs ls hR hS ha hn hL hv
  exact lv_isub hx hb hd (k ad H locs ls hR hS ha hn hL (gw_cs (gw_int n _) (gw_tl (gw_tl hv))))
theorem g_imul {l : Launch} {K : gw_K} {X : gw_X} {cc : ByteArray} {own : String} {F Lo MC MS pc : Nat} {L : List (Option Value)} {S : List Value} {h : gw_H} {n kc ks : Nat} {x y : Int32} (hX : FX l K X cc own F Lo MC MS) (hd : decode cc pc = .ok (.imul, 1)) (k : GW X (pc + 1) L (.int (x * y) :: S) h n kc ks) : GW X pc L (.int y :: .int x :: S) h n kc ks := by
  obtain ⟨p, l1, e, R, s, m, args, below, meth, c, A, Q, K1, ad0, n0⟩ := X
  obtain ⟨hx, hb, hown, hts, hK, hA, hsp, hz, rfl, rfl, rfl, hst, hlk⟩ := hX
  intro ad H locs ls hR hS ha hn hL hv
  exact lv_imul hx hb hd (k ad H locs ls hR hS ha hn hL (gw_cs (gw_int n _) (gw_tl (gw_tl hv))))
theorem g_iand {l : Launch} {K : gw_K} {X : gw_X} {cc : ByteArray} {own : String} {F Lo MC MS pc : Nat} {L : List (Option Value)} {S : List Value} {h : gw_H} {n kc ks : Nat} {x y : Int32} (hX : FX l K X cc own F Lo MC MS) (hd : decode cc pc = .ok (.iand, 1)) (k : GW X (pc + 1) L (.int (x &&& y) :: S) h n kc ks) : GW X pc L (.int y :: .int x :: S) h n kc ks := by
  obtain ⟨p, l1, e, R, s, m, args, below, meth, c, A, Q, K1, ad0, n0⟩ := X
  obtain ⟨hx, hb, hown, hts, hK, hA, hsp, hz, rfl, rfl, rfl, hst, hlk⟩ := hX
  intro ad H locs ls hR hS ha hn hL hv
  exact lv_iand hx hb hd (k ad H locs ls hR hS ha hn hL (gw_cs (gw_int n _) (gw_tl (gw_tl hv))))
theorem g_ior {l : Launch} {K : gw_K} {X : gw_X} {cc : ByteArray} {own : String} {F Lo MC MS pc : Nat} {L : List (Option Value)} {S : List Value} {h : gw_H} {n kc ks : Nat} {x y : Int32} (hX : FX l K X cc own F Lo MC MS) (hd : decode cc pc = .ok (.ior, 1)) (k : GW X (pc + 1) L (.int (x ||| y) :: S) h n kc ks) : GW X pc L (.int y :: .int x :: S) h n kc ks := by
  obtain ⟨p, l1, e, R, s, m, args, below, meth, c, A, Q, K1, ad0, n0⟩ := X
  obtain ⟨hx, hb, hown, hts, hK, hA, hsp, hz, rfl, rfl, rfl, hst, hlk⟩ := hX
  intro ad H locs ls hR hS ha hn hL hv
  exact lv_ior hx hb hd (k ad H locs ls hR hS ha hn hL (gw_cs (gw_int n _) (gw_tl (gw_tl hv))))
theorem g_ladd {l : Launch} {K : gw_K} {X : gw_X} {cc : ByteArray} {own : String} {F Lo MC MS pc : Nat} {L : List (Option Value)} {S : List Value} {h : gw_H} {n kc ks : Nat} {x y : Int64} (hX : FX l K X cc own F Lo MC MS) (hd : decode cc pc = .ok (.ladd, 1)) (k : GW X (pc + 1) L (.long (x + y) :: S) h n kc ks) : GW X pc L (.long y :: .long x :: S) h n kc ks := by
  obtain ⟨p, l1, e, R, s, m, args, below, meth, c, A, Q, K1, ad0, n0⟩ := X
  obtain ⟨hx, hb, hown, hts, hK, hA, hsp, hz, rfl, rfl, rfl, hst, hlk⟩ := hX
  intro ad H locs ls hR hS ha hn hL hv
  exact lv_ladd hx hb hd (k ad H locs ls hR hS ha hn hL (gw_cs (gw_long n _) (gw_tl (gw_tl hv))))
theorem g_lmul {l : Launch} {K : gw_K} {X : gw_X} {cc : ByteArray} {own : String} {F Lo MC MS pc : Nat} {L : List (Option Value)} {S : List Value} {h : gw_H} {n kc ks : Nat} {x y : Int64} (hX : FX l K X cc own F Lo MC MS) (hd : decode cc pc = .ok (.lmul, 1)) (k : GW X (pc + 1) L (.long (x * y) :: S) h n kc ks) : GW X pc L (.long y :: .long x :: S) h n kc ks := by
  obtain ⟨p, l1, e, R, s, m, args, below, meth, c, A, Q, K1, ad0, n0⟩ := X
  obtain ⟨hx, hb, hown, hts, hK, hA, hsp, hz, rfl, rfl, rfl, hst, hlk⟩ := hX
  intro ad H locs ls hR hS ha hn hL hv
  exact lv_lmul hx hb hd (k ad H locs ls hR hS ha hn hL (gw_cs (gw_long n _) (gw_tl (gw_tl hv))))
theorem g_land {l : Launch} {K : gw_K} {X : gw_X} {cc : ByteArray} {own : String} {F Lo MC MS pc : Nat} {L : List (Option Value)} {S : List Value} {h : gw_H} {n kc ks : Nat} {x y : Int64} (hX : FX l K X cc own F Lo MC MS) (hd : decode cc pc = .ok (.land, 1)) (k : GW X (pc + 1) L (.long (x &&& y) :: S) h n kc ks) : GW X pc L (.long y :: .long x :: S) h n kc ks := by
  obtain ⟨p, l1, e, R, s, m, args, below, meth, c, A, Q, K1, ad0, n0⟩ := X
  obtain ⟨hx, hb, hown, hts, hK, hA, hsp, hz, rfl, rfl, rfl, hst, hlk⟩ := hX
  intro ad H locs ls hR hS ha hn hL hv
  exact lv_land hx hb hd (k ad H locs ls hR hS ha hn hL (gw_cs (gw_long n _) (gw_tl (gw_tl hv))))
theorem g_lor {l : Launch} {K : gw_K} {X : gw_X} {cc : ByteArray} {own : String} {F Lo MC MS pc : Nat} {L : List (Option Value)} {S : List Value} {h : gw_H} {n kc ks : Nat} {x y : Int64} (hX : FX l K X cc own F Lo MC MS) (hd : decode cc pc = .ok (.lor, 1)) (k : GW X (pc + 1) L (.long (x ||| y) :: S) h n kc ks) : GW X pc L (.long y :: .long x :: S) h n kc ks := by
  obtain ⟨p, l1, e, R, s, m, args, below, meth, c, A, Q, K1, ad0, n0⟩ := X
  obtain ⟨hx, hb, hown, hts, hK, hA, hsp, hz, rfl, rfl, rfl, hst, hlk⟩ := hX
  intro ad H locs ls hR hS ha hn hL hv
  exact lv_lor hx hb hd (k ad H locs ls hR hS ha hn hL (gw_cs (gw_long n _) (gw_tl (gw_tl hv))))
theorem g_idiv {l : Launch} {K : gw_K} {X : gw_X} {cc : ByteArray} {own : String} {F Lo MC MS pc : Nat} {L : List (Option Value)} {S : List Value} {h : gw_H} {n kc ks : Nat} {x y : Int32} (hX : FX l K X cc own F Lo MC MS) (hd : decode cc pc = .ok (.idiv, 1)) (hne : ¬ y = 0) (k : GW X (pc + 1) L (.int (x / y) :: S) h n kc ks) : GW X pc L (.int y :: .int x :: S) h n kc ks := by
  obtain ⟨p, l1, e, R, s, m, args, below, meth, c, A, Q, K1, ad0, n0⟩ := X
  obtain ⟨hx, hb, hown, hts, hK, hA, hsp, hz, rfl, rfl, rfl, hst, hlk⟩ := hX
  intro ad H locs ls hR hS ha hn hL hv
  exact lv_idiv hx hb hd hne (k ad H locs ls hR hS ha hn hL (gw_cs (gw_int n _) (gw_tl (gw_tl hv))))
theorem g_irem {l : Launch} {K : gw_K} {X : gw_X} {cc : ByteArray} {own : String} {F Lo MC MS pc : Nat} {L : List (Option Value)} {S : List Value} {h : gw_H} {n kc ks : Nat} {x y : Int32} (hX : FX l K X cc own F Lo MC MS) (hd : decode cc pc = .ok (.irem, 1)) (hne : ¬ y = 0) (k : GW X (pc + 1) L (.int (x - x / y * y) :: S) h n kc ks) : GW X pc L (.int y :: .int x :: S) h n kc ks := by
  obtain ⟨p, l1, e, R, s, m, args, below, meth, c, A, Q, K1, ad0, n0⟩ := X
  obtain ⟨hx, hb, hown, hts, hK, hA, hsp, hz, rfl, rfl, rfl, hst, hlk⟩ := hX
  intro ad H locs ls hR hS ha hn hL hv
  exact lv_irem hx hb hd hne (k ad H locs ls hR hS ha hn hL (gw_cs (gw_int n _) (gw_tl (gw_tl hv))))
theorem g_ineg {l : Launch} {K : gw_K} {X : gw_X} {cc : ByteArray} {own : String} {F Lo MC MS pc : Nat} {L : List (Option Value)} {S : List Value} {h : gw_H} {n kc ks : Nat} {x : Int32} (hX : FX l K X cc own F Lo MC MS) (hd : decode cc pc = .ok (.ineg, 1)) (k : GW X (pc + 1) L (.int (-x) :: S) h n kc ks) : GW X pc L (.int x :: S) h n kc ks := by
  obtain ⟨p, l1, e, R, s, m, args, below, meth, c, A, Q, K1, ad0, n0⟩ := X
  obtain ⟨hx, hb, hown, hts, hK, hA, hsp, hz, rfl, rfl, rfl, hst, hlk⟩ := hX
  intro ad H locs ls hR hS ha hn hL hv
  exact lv_ineg hx hb hd (k ad H locs ls hR hS ha hn hL (gw_cs (gw_int n _) (gw_tl hv)))
theorem g_i2l {l : Launch} {K : gw_K} {X : gw_X} {cc : ByteArray} {own : String} {F Lo MC MS pc : Nat} {L : List (Option Value)} {S : List Value} {h : gw_H} {n kc ks : Nat} {x : Int32} (hX : FX l K X cc own F Lo MC MS) (hd : decode cc pc = .ok (.i2l, 1)) (k : GW X (pc + 1) L (.long x.toInt64 :: S) h n kc ks) : GW X pc L (.int x :: S) h n kc ks := by
  obtain ⟨p, l1, e, R, s, m, args, below, meth, c, A, Q, K1, ad0, n0⟩ := X
  obtain ⟨hx, hb, hown, hts, hK, hA, hsp, hz, rfl, rfl, rfl, hst, hlk⟩ := hX
  intro ad H locs ls hR hS ha hn hL hv
  exact lv_i2l hx hb hd rfl (k ad H locs ls hR hS ha hn hL (gw_cs (gw_long n _) (gw_tl hv)))
theorem g_lcmp {l : Launch} {K : gw_K} {X : gw_X} {cc : ByteArray} {own : String} {F Lo MC MS pc : Nat} {L : List (Option Value)} {S : List Value} {h : gw_H} {n kc ks : Nat} {x y : Int64} (hX : FX l K X cc own F Lo MC MS) (hd : decode cc pc = .ok (.lcmp, 1)) (k : GW X (pc + 1) L (.int (lg_cmp x y) :: S) h n kc ks) : GW X pc L (.long y :: .long x :: S) h n kc ks := by
  obtain ⟨p, l1, e, R, s, m, args, below, meth, c, A, Q, K1, ad0, n0⟩ := X
  obtain ⟨hx, hb, hown, hts, hK, hA, hsp, hz, rfl, rfl, rfl, hst, hlk⟩ := hX
  intro ad H locs ls hR hS ha hn hL hv
  exact W.lcmp hx hb hd (k ad H locs ls hR hS ha hn hL (gw_cs (gw_int n _) (gw_tl (gw_tl hv))))
theorem g_dcmp {l : Launch} {K : gw_K} {X : gw_X} {cc : ByteArray} {own : String} {F Lo MC MS pc : Nat} {L : List (Option Value)} {S : List Value} {h : gw_H} {n kc ks : Nat} {x y : UInt64} {op : CmpOp} (hX : FX l K X cc own F Lo MC MS) (hd : decode cc pc = .ok (.dcmp op, 1)) (k : GW X (pc + 1) L (.int (Op.cmpValue (FP.dcmp x y) op) :: S) h n kc ks) : GW X pc L (.double y :: .double x :: S) h n kc ks := by
  obtain ⟨p, l1, e, R, s, m, args, below, meth, c, A, Q, K1, ad0, n0⟩ := X
  obtain ⟨hx, hb, hown, hts, hK, hA, hsp, hz, rfl, rfl, rfl, hst, hlk⟩ := hX
  intro ad H locs ls hR hS ha hn hL hv
  exact lv_dcmp hx hb hd (k ad H locs ls hR hS ha hn hL (gw_cs (gw_int n _) (gw_tl (gw_tl hv))))
theorem g_icmp_eq {l : Launch} {K : gw_K} {X : gw_X} {cc : ByteArray} {own : String} {F Lo MC MS pc : Nat} {L : List (Option Value)} {S : List Value} {h : gw_H} {n kc ks : Nat} {x y : Int32} {off : Int} {tgt : Nat} (hX : FX l K X cc own F Lo MC MS) (hd : decode cc pc = .ok (.if_icmp .eq off, 3)) (ht : (pc : Int) + off = (tgt : Int)) (kt : x = y → GW X tgt L S h n kc ks) (kf : ¬ x = y → GW X (pc + 3) L S h n kc ks) : GW X pc L (.int y :: .int x :: S) h n kc ks := by
  obtain ⟨p, l1, e, R, s, m, args, below, meth, c, A, Q, K1, ad0, n0⟩ := X
  obtain ⟨hx, hb, hown, hts, hK, hA, hsp, hz, rfl, rfl, rfl, hst, hlk⟩ := hX
  intro ad H locs ls hR hS ha hn hL hv
  exact lv_icmp_eq hx hb hd ht (fun q => kt q ad H locs ls hR hS ha hn hL (gw_tl (gw_tl hv))) (fun q => kf q ad H locs ls hR hS ha hn hL (gw_tl (gw_tl hv)))
theorem g_if_eq {l : Launch} {K : gw_K} {X : gw_X} {cc : ByteArray} {own : String} {F Lo MC MS pc : Nat} {L : List (Option Value)} {S : List Value} {h : gw_H} {n kc ks : Nat} {x : Int32} {off : Int} {tgt : Nat} (hX : FX l K X cc own F Lo MC MS) (hd : decode cc pc = .ok (.ifCond .eq off, 3)) (ht : (pc : Int) + off = (tgt : Int)) (kt : x = 0 → GW X tgt L S h n kc ks) (kf : ¬ x = 0 → GW X (pc + 3) L S h n kc ks) : GW X pc L (.int x :: S) h n kc ks := by
  obtain ⟨p, l1, e, R, s, m, args, below, meth, c, A, Q, K1, ad0, n0⟩ := X
  obtain ⟨hx, hb, hown, hts, hK, hA, hsp, hz, rfl, rfl, rfl, hst, hlk⟩ := hX
  intro ad H locs ls hR hS ha hn hL hv
  exact lv_if_eq hx hb hd ht (fun q => kt q ad H locs ls hR hS ha hn hL (gw_tl hv)) (fun q => kf q ad H locs ls hR hS ha hn hL (gw_tl hv))
theorem g_icmp_ne {l : Launch} {K : gw_K} {X : gw_X} {cc : ByteArray} {own : String} {F Lo MC MS pc : Nat} {L : List (Option Value)} {S : List Value} {h : gw_H} {n kc ks : Nat} {x y : Int32} {off : Int} {tgt : Nat} (hX : FX l K X cc own F Lo MC MS) (hd : decode cc pc = .ok (.if_icmp .ne off, 3)) (ht : (pc : Int) + off = (tgt : Int)) (kt : ¬ x = y → GW X tgt L S h n kc ks) (kf : x = y → GW X (pc + 3) L S h n kc ks) : GW X pc L (.int y :: .int x :: S) h n kc ks := by
  obtain ⟨p, l1, e, R, s, m, args, below, meth, c, A, Q, K1, ad0, n0⟩ := X
  obtain ⟨hx, hb, hown, hts, hK, hA, hsp, hz, rfl, rfl, rfl, hst, hlk⟩ := hX
  intro ad H locs ls hR hS ha hn hL hv
  exact lv_icmp_ne hx hb hd ht (fun q => kt q ad H locs ls hR hS ha hn hL (gw_tl (gw_tl hv))) (fun q => kf q ad H locs ls hR hS ha hn hL (gw_tl (gw_tl hv)))
theorem g_if_ne {l : Launch} {K : gw_K} {X : gw_X} {cc : ByteArray} {own : String} {F Lo MC MS pc : Nat} {L : List (Option Value)} {S : List Value} {h : gw_H} {n kc ks : Nat} {x : Int32} {off : Int} {tgt : Nat} (hX : FX l K X cc own F Lo MC MS) (hd : decode cc pc = .ok (.ifCond .ne off, 3)) (ht : (pc : Int) + off = (tgt : Int)) (kt : ¬ x = 0 → GW X tgt L S h n kc ks) (kf : x = 0 → GW X (pc + 3) L S h n kc ks) : GW X pc L (.int x :: S) h n kc ks := by
  obtain ⟨p, l1, e, R, s, m, args, below, meth, c, A, Q, K1, ad0, n0⟩ := X
  obtain ⟨hx, hb, hown, hts, hK, hA, hsp, hz, rfl, rfl, rfl, hst, hlk⟩ := hX
  intro ad H locs ls hR hS ha hn hL hv
  exact lv_if_ne hx hb hd ht (fun q => kt q ad H locs ls hR hS ha hn hL (gw_tl hv)) (fun q => kf q ad H locs ls hR hS ha hn hL (gw_tl hv))
theorem g_icmp_lt {l : Launch} {K : gw_K} {X : gw_X} {cc : ByteArray} {own : String} {F Lo MC MS pc : Nat} {L : List (Option Value)} {S : List Value} {h : gw_H} {n kc ks : Nat} {x y : Int32} {off : Int} {tgt : Nat} (hX : FX l K X cc own F Lo MC MS) (hd : decode cc pc = .ok (.if_icmp .lt off, 3)) (ht : (pc : Int) + off = (tgt : Int)) (kt : x < y → GW X tgt L S h n kc ks) (kf : ¬ x < y → GW X (pc + 3) L S h n kc ks) : GW X pc L (.int y :: .int x :: S) h n kc ks := by
  obtain ⟨p, l1, e, R, s, m, args, below, meth, c, A, Q, K1, ad0, n0⟩ := X
  obtain ⟨hx, hb, hown, hts, hK, hA, hsp, hz, rfl, rfl, rfl, hst, hlk⟩ := hX
  intro ad H locs ls hR hS ha hn hL hv
  exact lv_icmp_lt hx hb hd ht (fun q => kt q ad H locs ls hR hS ha hn hL (gw_tl (gw_tl hv))) (fun q => kf q ad H locs ls hR hS ha hn hL (gw_tl (gw_tl hv)))
theorem g_if_lt {l : Launch} {K : gw_K} {X : gw_X} {cc : ByteArray} {own : String} {F Lo MC MS pc : Nat} {L : List (Option Value)} {S : List Value} {h : gw_H} {n kc ks : Nat} {x : Int32} {off : Int} {tgt : Nat} (hX : FX l K X cc own F Lo MC MS) (hd : decode cc pc = .ok (.ifCond .lt off, 3)) (ht : (pc : Int) + off = (tgt : Int)) (kt : x < 0 → GW X tgt L S h n kc ks) (kf : ¬ x < 0 → GW X (pc + 3) L S h n kc ks) : GW X pc L (.int x :: S) h n kc ks := by
  obtain ⟨p, l1, e, R, s, m, args, below, meth, c, A, Q, K1, ad0, n0⟩ := X
  obtain ⟨hx, hb, hown, hts, hK, hA, hsp, hz, rfl, rfl, rfl, hst, hlk⟩ := hX
  intro ad H locs ls hR hS ha hn hL hv
  exact lv_if_lt hx hb hd ht (fun q => kt q ad H locs ls hR hS ha hn hL (gw_tl hv)) (fun q => kf q ad H locs ls hR hS ha hn hL (gw_tl hv))
theorem g_icmp_ge {l : Launch} {K : gw_K} {X : gw_X} {cc : ByteArray} {own : String} {F Lo MC MS pc : Nat} {L : List (Option Value)} {S : List Value} {h : gw_H} {n kc ks : Nat} {x y : Int32} {off : Int} {tgt : Nat} (hX : FX l K X cc own F Lo MC MS) (hd : decode cc pc = .ok (.if_icmp .ge off, 3)) (ht : (pc : Int) + off = (tgt : Int)) (kt : y ≤ x → GW X tgt L S h n kc ks) (kf : ¬ y ≤ x → GW X (pc + 3) L S h n kc ks) : GW X pc L (.int y :: .int x :: S) h n kc ks := by
  obtain ⟨p, l1, e, R, s, m, args, below, meth, c, A, Q, K1, ad0, n0⟩ := X
  obtain ⟨hx, hb, hown, hts, hK, hA, hsp, hz, rfl, rfl, rfl, hst, hlk⟩ := hX
  intro ad H locs ls hR hS ha hn hL hv
  exact lv_icmp_ge hx hb hd ht (fun q => kt q ad H locs ls hR hS ha hn hL (gw_tl (gw_tl hv))) (fun q => kf q ad H locs ls hR hS ha hn hL (gw_tl (gw_tl hv)))
theorem g_if_ge {l : Launch} {K : gw_K} {X : gw_X} {cc : ByteArray} {own : String} {F Lo MC MS pc : Nat} {L : List (Option Value)} {S : List Value} {h : gw_H} {n kc ks : Nat} {x : Int32} {off : Int} {tgt : Nat} (hX : FX l K X cc own F Lo MC MS) (hd : decode cc pc = .ok (.ifCond .ge off, 3)) (ht : (pc : Int) + off = (tgt : Int)) (kt : 0 ≤ x → GW X tgt L S h n kc ks) (kf : ¬ 0 ≤ x → GW X (pc + 3) L S h n kc ks) : GW X pc L (.int x :: S) h n kc ks := by
  obtain ⟨p, l1, e, R, s, m, args, below, meth, c, A, Q, K1, ad0, n0⟩ := X
  obtain ⟨hx, hb, hown, hts, hK, hA, hsp, hz, rfl, rfl, rfl, hst, hlk⟩ := hX
  intro ad H locs ls hR hS ha hn hL hv
  exact lv_if_ge hx hb hd ht (fun q => kt q ad H locs ls hR hS ha hn hL (gw_tl hv)) (fun q => kf q ad H locs ls hR hS ha hn hL (gw_tl hv))
theorem g_icmp_gt {l : Launch} {K : gw_K} {X : gw_X} {cc : ByteArray} {own : String} {F Lo MC MS pc : Nat} {L : List (Option Value)} {S : List Value} {h : gw_H} {n kc ks : Nat} {x y : Int32} {off : Int} {tgt : Nat} (hX : FX l K X cc own F Lo MC MS) (hd : decode cc pc = .ok (.if_icmp .gt off, 3)) (ht : (pc : Int) + off = (tgt : Int)) (kt : y < x → GW X tgt L S h n kc ks) (kf : ¬ y < x → GW X (pc + 3) L S h n kc ks) : GW X pc L (.int y :: .int x :: S) h n kc ks := by
  obtain ⟨p, l1, e, R, s, m, args, below, meth, c, A, Q, K1, ad0, n0⟩ := X
  obtain ⟨hx, hb, hown, hts, hK, hA, hsp, hz, rfl, rfl, rfl, hst, hlk⟩ := hX
  intro ad H locs ls hR hS ha hn hL hv
  exact lv_icmp_gt hx hb hd ht (fun q => kt q ad H locs ls hR hS ha hn hL (gw_tl (gw_tl hv))) (fun q => kf q ad H locs ls hR hS ha hn hL (gw_tl (gw_tl hv)))
theorem g_if_gt {l : Launch} {K : gw_K} {X : gw_X} {cc : ByteArray} {own : String} {F Lo MC MS pc : Nat} {L : List (Option Value)} {S : List Value} {h : gw_H} {n kc ks : Nat} {x : Int32} {off : Int} {tgt : Nat} (hX : FX l K X cc own F Lo MC MS) (hd : decode cc pc = .ok (.ifCond .gt off, 3)) (ht : (pc : Int) + off = (tgt : Int)) (kt : 0 < x → GW X tgt L S h n kc ks) (kf : ¬ 0 < x → GW X (pc + 3) L S h n kc ks) : GW X pc L (.int x :: S) h n kc ks := by
  obtain ⟨p, l1, e, R, s, m, args, below, meth, c, A, Q, K1, ad0, n0⟩ := X
  obtain ⟨hx, hb, hown, hts, hK, hA, hsp, hz, rfl, rfl, rfl, hst, hlk⟩ := hX
  intro ad H locs ls hR hS ha hn hL hv
  exact lv_if_gt hx hb hd ht (fun q => kt q ad H locs ls hR hS ha hn hL (gw_tl hv)) (fun q => kf q ad H locs ls hR hS ha hn hL (gw_tl hv))
theorem g_icmp_le {l : Launch} {K : gw_K} {X : gw_X} {cc : ByteArray} {own : String} {F Lo MC MS pc : Nat} {L : List (Option Value)} {S : List Value} {h : gw_H} {n kc ks : Nat} {x y : Int32} {off : Int} {tgt : Nat} (hX : FX l K X cc own F Lo MC MS) (hd : decode cc pc = .ok (.if_icmp .le off, 3)) (ht : (pc : Int) + off = (tgt : Int)) (kt : x ≤ y → GW X tgt L S h n kc ks) (kf : ¬ x ≤ y → GW X (pc + 3) L S h n kc ks) : GW X pc L (.int y :: .int x :: S) h n kc ks := by
  obtain ⟨p, l1, e, R, s, m, args, below, meth, c, A, Q, K1, ad0, n0⟩ := X
  obtain ⟨hx, hb, hown, hts, hK, hA, hsp, hz, rfl, rfl, rfl, hst, hlk⟩ := hX
  intro ad H locs ls hR hS ha hn hL hv
  exact lv_icmp_le hx hb hd ht (fun q => kt q ad H locs ls hR hS ha hn hL (gw_tl (gw_tl hv))) (fun q => kf q ad H locs ls hR hS ha hn hL (gw_tl (gw_tl hv)))
theorem g_if_le {l : Launch} {K : gw_K} {X : gw_X} {cc : ByteArray} {own : String} {F Lo MC MS pc : Nat} {L : List (Option Value)} {S : List Value} {h : gw_H} {n kc ks : Nat} {x : Int32} {off : Int} {tgt : Nat} (hX : FX l K X cc own F Lo MC MS) (hd : decode cc pc = .ok (.ifCond .le off, 3)) (ht : (pc : Int) + off = (tgt : Int)) (kt : x ≤ 0 → GW X tgt L S h n kc ks) (kf : ¬ x ≤ 0 → GW X (pc + 3) L S h n kc ks) : GW X pc L (.int x :: S) h n kc ks := by
  obtain ⟨p, l1, e, R, s, m, args, below, meth, c, A, Q, K1, ad0, n0⟩ := X
  obtain ⟨hx, hb, hown, hts, hK, hA, hsp, hz, rfl, rfl, rfl, hst, hlk⟩ := hX
  intro ad H locs ls hR hS ha hn hL hv
  exact lv_if_le hx hb hd ht (fun q => kt q ad H locs ls hR hS ha hn hL (gw_tl hv)) (fun q => kf q ad H locs ls hR hS ha hn hL (gw_tl hv))
theorem g_goto {l : Launch} {K : gw_K} {X : gw_X} {cc : ByteArray} {own : String} {F Lo MC MS pc : Nat} {L : List (Option Value)} {S : List Value} {h : gw_H} {n kc ks : Nat} {off : Int} {tgt : Nat} (hX : FX l K X cc own F Lo MC MS) (hd : decode cc pc = .ok (.goto off, 3)) (ht : (pc : Int) + off = (tgt : Int)) (k : GW X tgt L S h n kc ks) : GW X pc L S h n kc ks := by
  obtain ⟨p, l1, e, R, s, m, args, below, meth, c, A, Q, K1, ad0, n0⟩ := X
  obtain ⟨hx, hb, hown, hts, hK, hA, hsp, hz, rfl, rfl, rfl, hst, hlk⟩ := hX
  intro ad H locs ls hR hS ha hn hL hv
  exact lv_goto hx hb hd ht (k ad H locs ls hR hS ha hn hL hv)
theorem g_tableIn {l : Launch} {K : gw_K} {X : gw_X} {cc : ByteArray} {own : String} {F Lo MC MS pc : Nat} {L : List (Option Value)} {S : List Value} {h : gw_H} {n kc ks : Nat} {dflt lo hi : Int} {offs : Array Int} {len : Nat} {x : Int32} {off : Int} {tgt : Nat} (hX : FX l K X cc own F Lo MC MS) (hd : decode cc pc = .ok (.tableswitch dflt lo hi offs, len)) (h1 : ¬ x.toInt < lo) (h2 : ¬ hi < x.toInt) (ho : offs[(x.toInt - lo).toNat]? = some off) (ht : (pc : Int) + off = (tgt : Int)) (k : GW X tgt L S h n kc ks) : GW X pc L (.int x :: S) h n kc ks := by
  obtain ⟨p, l1, e, R, s, m, args, below, meth, c, A, Q, K1, ad0, n0⟩ := X
  obtain ⟨hx, hb, hown, hts, hK, hA, hsp, hz, rfl, rfl, rfl, hst, hlk⟩ := hX
  intro ad H locs ls hR hS ha hn hL hv
  exact lv_tableIn hx hb hd h1 h2 ho ht (k ad H locs ls hR hS ha hn hL (gw_tl hv))
theorem g_tableOut {l : Launch} {K : gw_K} {X : gw_X} {cc : ByteArray} {own : String} {F Lo MC MS pc : Nat} {L : List (Option Value)} {S : List Value} {h : gw_H} {n kc ks : Nat} {dflt lo hi : Int} {offs : Array Int} {len : Nat} {x : Int32} {tgt : Nat} (hX : FX l K X cc own F Lo MC MS) (hd : decode cc pc = .ok (.tableswitch dflt lo hi offs, len)) (ho : x.toInt < lo ∨ hi < x.toInt) (ht : (pc : Int) + dflt = (tgt : Int)) (k : GW X tgt L S h n kc ks) : GW X pc L (.int x :: S) h n kc ks := by
  obtain ⟨p, l1, e, R, s, m, args, below, meth, c, A, Q, K1, ad0, n0⟩ := X
  obtain ⟨hx, hb, hown, hts, hK, hA, hsp, hz, rfl, rfl, rfl, hst, hlk⟩ := hX
  intro ad H locs ls hR hS ha hn hL hv
  exact lv_tableOut hx hb hd ho ht (k ad H locs ls hR hS ha hn hL (gw_tl hv))
theorem g_ishl {l : Launch} {K : gw_K} {X : gw_X} {cc : ByteArray} {own : String} {F Lo MC MS pc : Nat} {L : List (Option Value)} {S : List Value} {h : gw_H} {n kc ks : Nat} {x y : Int32} (hX : FX l K X cc own F Lo MC MS) (hd : decode cc pc = .ok (.ishl, 1)) (k : GW X (pc + 1) L (.int (x <<< (y &&& 31)) :: S) h n kc ks) : GW X pc L (.int y :: .int x :: S) h n kc ks := by
  obtain ⟨p, l1, e, R, s, m, args, below, meth, c, A, Q, K1, ad0, n0⟩ := X
  obtain ⟨hx, hb, hown, hts, hK, hA, hsp, hz, rfl, rfl, rfl, hst, hlk⟩ := hX
  intro ad H locs ls hR hS ha hn hL hv
  exact lv_ishl hx hb hd (k ad H locs ls hR hS ha hn hL (gw_cs (gw_int n _) (gw_tl (gw_tl hv))))
theorem g_ishr {l : Launch} {K : gw_K} {X : gw_X} {cc : ByteArray} {own : String} {F Lo MC MS pc : Nat} {L : List (Option Value)} {S : List Value} {h : gw_H} {n kc ks : Nat} {x y : Int32} (hX : FX l K X cc own F Lo MC MS) (hd : decode cc pc = .ok (.ishr, 1)) (k : GW X (pc + 1) L (.int (x >>> (y &&& 31)) :: S) h n kc ks) : GW X pc L (.int y :: .int x :: S) h n kc ks := by
  obtain ⟨p, l1, e, R, s, m, args, below, meth, c, A, Q, K1, ad0, n0⟩ := X
  obtain ⟨hx, hb, hown, hts, hK, hA, hsp, hz, rfl, rfl, rfl, hst, hlk⟩ := hX
  intro ad H locs ls hR hS ha hn hL hv
  exact lv_ishr hx hb hd (k ad H locs ls hR hS ha hn hL (gw_cs (gw_int n _) (gw_tl (gw_tl hv))))
theorem g_lshl {l : Launch} {K : gw_K} {X : gw_X} {cc : ByteArray} {own : String} {F Lo MC MS pc : Nat} {L : List (Option Value)} {S : List Value} {h : gw_H} {n kc ks : Nat} {x : Int64} {y : Int32} (hX : FX l K X cc own F Lo MC MS) (hd : decode cc pc = .ok (.lshl, 1)) (k : GW X (pc + 1) L (.long (x <<< (y.toInt64 &&& 63)) :: S) h n kc ks) : GW X pc L (.int y :: .long x :: S) h n kc ks := by
  obtain ⟨p, l1, e, R, s, m, args, below, meth, c, A, Q, K1, ad0, n0⟩ := X
  obtain ⟨hx, hb, hown, hts, hK, hA, hsp, hz, rfl, rfl, rfl, hst, hlk⟩ := hX
  intro ad H locs ls hR hS ha hn hL hv
  exact lv_lshl hx hb hd rfl (k ad H locs ls hR hS ha hn hL (gw_cs (gw_long n _) (gw_tl (gw_tl hv))))
theorem g_dup {l : Launch} {K : gw_K} {X : gw_X} {cc : ByteArray} {own : String} {F Lo MC MS pc : Nat} {L : List (Option Value)} {S : List Value} {h : gw_H} {n kc ks : Nat} {v : Value} (hX : FX l K X cc own F Lo MC MS) (hd : decode cc pc = .ok (.dup, 1)) (hc : v.category = 1) (k : GW X (pc + 1) L (v :: v :: S) h n kc ks) : GW X pc L (v :: S) h n kc ks := by
  obtain ⟨p, l1, e, R, s, m, args, below, meth, c, A, Q, K1, ad0, n0⟩ := X
  obtain ⟨hx, hb, hown, hts, hK, hA, hsp, hz, rfl, rfl, rfl, hst, hlk⟩ := hX
  intro ad H locs ls hR hS ha hn hL hv
  exact lv_dup hx hb hd (by rw [gw_cat]; exact hc) (k ad H locs ls hR hS ha hn hL (gw_cs (gw_hd hv) hv))
theorem g_dup2 {l : Launch} {K : gw_K} {X : gw_X} {cc : ByteArray} {own : String} {F Lo MC MS pc : Nat} {L : List (Option Value)} {S : List Value} {h : gw_H} {n kc ks : Nat} {v w : Value} (hX : FX l K X cc own F Lo MC MS) (hd : decode cc pc = .ok (.dup2, 1)) (hc : v.category = 1) (hc2 : w.category = 1) (k : GW X (pc + 1) L (v :: w :: v :: w :: S) h n kc ks) : GW X pc L (v :: w :: S) h n kc ks := by
  obtain ⟨p, l1, e, R, s, m, args, below, meth, c, A, Q, K1, ad0, n0⟩ := X
  obtain ⟨hx, hb, hown, hts, hK, hA, hsp, hz, rfl, rfl, rfl, hst, hlk⟩ := hX
  intro ad H locs ls hR hS ha hn hL hv
  exact lv_dup2_11 hx hb hd (by rw [gw_cat]; exact hc) (by rw [gw_cat]; exact hc2) (k ad H locs ls hR hS ha hn hL (gw_cs (gw_hd hv) (gw_cs (gw_hd (gw_tl hv)) hv)))
theorem g_pop {l : Launch} {K : gw_K} {X : gw_X} {cc : ByteArray} {own : String} {F Lo MC MS pc : Nat} {L : List (Option Value)} {S : List Value} {h : gw_H} {n kc ks : Nat} {v : Value} (hX : FX l K X cc own F Lo MC MS) (hd : decode cc pc = .ok (.pop, 1)) (hc : v.category = 1) (k : GW X (pc + 1) L S h n kc ks) : GW X pc L (v :: S) h n kc ks := by
  obtain ⟨p, l1, e, R, s, m, args, below, meth, c, A, Q, K1, ad0, n0⟩ := X
  obtain ⟨hx, hb, hown, hts, hK, hA, hsp, hz, rfl, rfl, rfl, hst, hlk⟩ := hX
  intro ad H locs ls hR hS ha hn hL hv
  exact lv_pop hx hb hd (by rw [gw_cat]; exact hc) (k ad H locs ls hR hS ha hn hL (gw_tl hv))
theorem g_i2d {l : Launch} {K : gw_K} {X : gw_X} {cc : ByteArray} {own : String} {F Lo MC MS pc : Nat} {L : List (Option Value)} {S : List Value} {h : gw_H} {n kc ks : Nat} {x : Int32} (hX : FX l K X cc own F Lo MC MS) (hd : decode cc pc = .ok (.i2d, 1)) (k : GW X (pc + 1) L (.double (FP.i2d x) :: S) h n kc ks) : GW X pc L (.int x :: S) h n kc ks := by
  obtain ⟨p, l1, e, R, s, m, args, below, meth, c, A, Q, K1, ad0, n0⟩ := X
  obtain ⟨hx, hb, hown, hts, hK, hA, hsp, hz, rfl, rfl, rfl, hst, hlk⟩ := hX
  intro ad H locs ls hR hS ha hn hL hv
  exact lv_i2d hx hb hd (k ad H locs ls hR hS ha hn hL (gw_cs (gw_dbl n _) (gw_tl hv)))
theorem g_ddiv {l : Launch} {K : gw_K} {X : gw_X} {cc : ByteArray} {own : String} {F Lo MC MS pc : Nat} {L : List (Option Value)} {S : List Value} {h : gw_H} {n kc ks : Nat} {x y : UInt64} (hX : FX l K X cc own F Lo MC MS) (hd : decode cc pc = .ok (.ddiv, 1)) (hne : vf_n64 (FP.ddiv x y)) (k : GW X (pc + 1) L (.double (FP.ddiv x y) :: S) h n kc ks) : GW X pc L (.double y :: .double x :: S) h n kc ks := by
  obtain ⟨p, l1, e, R, s, m, args, below, meth, c, A, Q, K1, ad0, n0⟩ := X
  obtain ⟨hx, hb, hown, hts, hK, hA, hsp, hz, rfl, rfl, rfl, hst, hlk⟩ := hX
  intro ad H locs ls hR hS ha hn hL hv
  exact lv_ddiv hx hb hd hne (k ad H locs ls hR hS ha hn hL (gw_cs (gw_dbl n _) (gw_tl (gw_tl hv))))
/-- the field of number k of class ci, named by entry idx of own's pool -/
def FL (own : String) (idx ci k : Nat) (ty : FieldType) (fin : Bool) : Prop := ∃ (C : String) (T : u_T) (N : Nat) (ty0 : Nat → FieldType), vwCl[ci]? = some (C, T, N) ∧ k < N ∧ (∀ w ∈ u_ws C T N, w ∈ lw_tbl.filter goodWord) ∧ (T k).1 = C ∧ (∀ k, k < N → parseFieldDescriptor (T k).2.2.1 = some (ty0 k)) ∧ (∀ a, a < N → ∀ b, b < N → a ≠ b → (T a).2.1 ≠ (T b).2.1) ∧ ty0 k = ty ∧ (T k).2.2.2 = fin ∧ (Cond.fieldLink own idx C (T k).2.1 (T k).2.2.1 ∈ lw_tbl ∨ ∃ host, Cond.fieldLinkNest own idx C (T k).2.1 (T k).2.2.1 host ∈ lw_tbl)
def FLo (own : String) (idx ci k : Nat) (ty : FieldType) : Prop := ∃ (C : String) (T : u_T) (N : Nat) (ty0 : Nat → FieldType), vwCl[ci]? = some (C, T, N) ∧ k < N ∧ (∀ w ∈ u_ws C T N, w ∈ lw_tbl.filter goodWord) ∧ (T k).1 = C ∧ (∀ k, k < N → parseFieldDescriptor (T k).2.2.1 = some (ty0 k)) ∧ (∀ a, a < N → ∀ b, b < N → a ≠ b → (T a).2.1 ≠ (T b).2.1) ∧ ty0 k = ty ∧ (T k).2.2.2 = true ∧ Cond.fieldLink own idx C (T k).2.1 (T k).2.2.1 ∈ lw_tbl ∧ C = own
theorem gw_at {K : gw_K} {ad : Nat → Nat} {n a : Nat} {h : gw_H} {e : gw_E} (ha : a < n) (he : h a = e) : (gw_ws K ad n h)[a]? = some (ad a, gw_tr K ad e) := by rw [← he]; exact gw_ws_at ha
theorem gw_oke_fs {n ci : Nat} {h : gw_H} {a : Nat} {fs : List Value} (hok : ∀ k, k < n → gw_oke n (h k)) (ha : a < n) (ho : h a = oB ci fs) : ∀ v ∈ fs, gw_ok n v := by
  have h1 := hok a ha
  rw [ho] at h1
  exact h1
theorem g_getf {l : Launch} {K : gw_K} {X : gw_X} {cc : ByteArray} {own : String} {F Lo MC MS pc : Nat} {L : List (Option Value)} {S : List Value} {h : gw_H} {n kc ks : Nat} {idx ci j a : Nat} {ty : FieldType} {fin : Bool} {fs : List Value} {v : Value} (hX : FX l K X cc own F Lo MC MS) (hd : decode cc pc = .ok (.getfield idx, 3)) (hf : FL own idx ci j ty fin) (ho : h a = oB ci fs) (hv0 : fs[j]? = some v) (k : GW X (pc + 3) L (v :: S) h n kc ks) : GW X pc L (.ref a :: S) h n kc ks := by
  obtain ⟨p, l1, e, R, s, m, args, below, meth, c, A, Q, K1, ad0, n0⟩ := X
  obtain ⟨hx, hb, hown, hts, hK, hA, hsp, hz, rfl, rfl, rfl, hst, hlk⟩ := hX
  intro ad H locs ls hR hS ha hn hL hv
  obtain ⟨C, T, N, ty0, h1, h2, h3, h4, h5, h6, h7, h8, hl⟩ := hf
  have hav : a < n := gw_hd hv a rfl
  have hts' : ∀ w ∈ lw_tbl.filter goodWord, w.before args s = true := fun w hw => hts w (List.mem_filter.mp hw).1 (List.mem_filter.mp hw).2
  have hat := gw_at (K := K1) (ad := ad) hav ho
  have hv1 : (fs.map (gw_V ad))[j]? = some (gw_V ad v) := by rw [List.getElem?_map, hv0]; rfl
  have hvo : gw_ok n v := gw_oke_fs hR.2.2 hav ho v (List.mem_of_getElem? hv0)
  have hsame : ∀ x, s.fieldFound? (T j).1 (T j).2.1 (T j).2.2.1 = some x → s.fieldFound? C (T j).2.1 (T j).2.2.1 = some x := fun x hx => by rw [← h4]; exact hx
  rcases hl with hl | ⟨host, hl⟩
  · exact va_get (ci := ci) hx hb hts' h3 hown hK hR.1 a hat h1 j h2 (hts _ hl rfl) hsame hv1 hd (k ad H locs ls hR hS ha hn hL (gw_cs hvo (gw_tl hv)))
  · exact va_getN (ci := ci) hx hb hts' h3 hown hK hR.1 a hat h1 j h2 ((hsp.1 _ hl rfl).use rfl) hsame hv1 hd (k ad H locs ls hR hS ha hn hL (gw_cs hvo (gw_tl hv)))
theorem gw_R.set {K : gw_K} {ad : Nat → Nat} {n a : Nat} {h : gw_H} {A : Nat → Prop} {H1 : Heap} {e : gw_E} {v : va_E} (hok : ∀ k, k < n → gw_oke n (h k)) (ha : a < n) (he : gw_oke n e) (hv : v = gw_tr K ad e) (hP : va_P K.1 vwCl ((gw_ws K ad n h).set a (ad a, v)) H1) (hD : va_D A ((gw_ws K ad n h).set a (ad a, v))) : gw_R K ad n (hs h a e) A H1 := by
  subst hv
  rw [gw_ws_set ha] at hP hD
  refine ⟨hP, hD, fun k hk => ?_⟩
  by_cases q : k = a
  · subst q; rw [hs_eq]; exact he
  · rw [hs_ne q]; exact hok k hk
theorem gw_set_fs {ad : Nat → Nat} {fs : List Value} {j : Nat} {v : Value} : (fs.map (gw_V ad)).set j (gw_V ad v) = (fs.set j v).map (gw_V ad) := by rw [List.map_set]
theorem g_putI {l : Launch} {K : gw_K} {X : gw_X} {cc : ByteArray} {own : String} {F Lo MC MS pc : Nat} {L : List (Option Value)} {S : List Value} {h : gw_H} {n kc ks : Nat} {idx ci j a : Nat} {fs : List Value} {x : Int32} (hX : FX l K X cc own F Lo MC MS) (hd : decode cc pc = .ok (.putfield idx, 3)) (hf : FL own idx ci j .int false) (ho : h a = oB ci fs) (hj : j < fs.length) (k : GW X (pc + 3) L S (hs h a (oB ci (fs.set j (.int x)))) n kc ks) : GW X pc L (.int x :: .ref a :: S) h n kc ks := by
  obtain ⟨p, l1, e, R, s, m, args, below, meth, c, A, Q, K1, ad0, n0⟩ := X
  obtain ⟨hx, hb, hown, hts, hK, hA, hsp, hz, rfl, rfl, rfl, hst, hlk⟩ := hX
  intro ad H locs ls hR hS ha hn hL hv
  obtain ⟨C, T, N, ty0, h1, h2, h3, h4, h5, h6, h7, h8, hl⟩ := hf
  have hav : a < n := gw_hd (gw_tl hv) a rfl
  have hts' : ∀ w ∈ lw_tbl.filter goodWord, w.before args s = true := fun w hw => hts w (List.mem_filter.mp hw).1 (List.mem_filter.mp hw).2
  have hat := gw_at (K := K1) (ad := ad) hav ho
  have hsame : ∀ x, s.fieldFound? (T j).1 (T j).2.1 (T j).2.2.1 = some x → s.fieldFound? C (T j).2.1 (T j).2.2.1 = some x := fun x hx => by rw [← h4]; exact hx
  have hd2 : parseFieldDescriptor (T j).2.2.1 = some .int := by rw [h5 j h2, h7]
  have hfo := gw_oke_fs hR.2.2 hav ho
  have hoke : gw_oke n (oB ci (fs.set j (.int x))) := fun v hm => by
    rcases List.mem_or_eq_of_mem_set hm with q | q
    · exact hfo v q
    · rw [q]; exact gw_int n x
  have hje : j < (fs.map (gw_V ad)).length := by rw [List.length_map]; exact hj
  have hev : (Sum.inr (ci, (fs.map (gw_V ad)).set j (Value.int x)) : va_E) = gw_tr K1 ad (oB ci (fs.set j (.int x))) := by
    show _ = (Sum.inr (ci, (fs.set j (.int x)).map (gw_V ad)) : va_E)
    rw [← gw_set_fs]; rfl
  rcases hl with hl | ⟨host, hl⟩
  · exact va_put (ci := ci) hx hb hts' h3 ty0 h5 h6 hown hK hR.1 hR.2.1 hS a hat h1 j h2 (hts _ hl rfl) hsame h8 hd2 rfl rfl hje hd (fun H1 locs1 hP1 hD1 hS1 => k ad H1 locs1 ls (gw_R.set hR.2.2 hav hoke hev hP1 hD1) hS1 ha hn hL (gw_tl (gw_tl hv)))
  · exact va_putN (ci := ci) hx hb hts' h3 ty0 h5 h6 hown hK hR.1 hR.2.1 hS a hat h1 j h2 ((hsp.1 _ hl rfl).use rfl) hsame h8 hd2 rfl rfl hje hd (fun H1 locs1 hP1 hD1 hS1 => k ad H1 locs1 ls (gw_R.set hR.2.2 hav hoke hev hP1 hD1) hS1 ha hn hL (gw_tl (gw_tl hv)))
/-- a final field that holds a reference, set in its class's constructor -/
theorem g_putF {l : Launch} {K : gw_K} {X : gw_X} {cc : ByteArray} {own : String} {F Lo MC MS pc : Nat} {L : List (Option Value)} {S : List Value} {h : gw_H} {n kc ks : Nat} {idx ci j a b : Nat} {fs : List Value} {ty : FieldType} {ret : Option FieldType} {Post : Option Value → gw_H → Nat → Prop} {PX : String → gw_H → Nat → Prop} (hX : FX l K X cc own F Lo MC MS) (hr : RX X "<init>" ret Post PX) (hd : decode cc pc = .ok (.putfield idx, 3)) (hf : FLo own idx ci j ty) (hty : ∀ q, narrow ty (.ref q) = .ref q ∧ fits ty (.ref q) = true) (ho : h a = oB ci fs) (hj : j < fs.length) (k : GW X (pc + 3) L S (hs h a (oB ci (fs.set j (.ref b)))) n kc ks) : GW X pc L (.ref b :: .ref a :: S) h n kc ks := by
  obtain ⟨p, l1, e, R, s, m, args, below, meth, c, A, Q, K1, ad0, n0⟩ := X
  obtain ⟨hx, hb, hown, hts, hK, hA, hsp, hz, rfl, rfl, rfl, hst, hlk⟩ := hX
  obtain ⟨hin, -, -, -⟩ := hr
  intro ad H locs ls hR hS ha hn hL hv
  obtain ⟨C, T, N, ty0, h1, h2, h3, h4, h5, h6, h7, h8, hl, hCo⟩ := hf
  have hav : a < n := gw_hd (gw_tl hv) a rfl
  have hts' : ∀ w ∈ lw_tbl.filter goodWord, w.before args s = true := fun w hw => hts w (List.mem_filter.mp hw).1 (List.mem_filter.mp hw).2
  have hat := gw_at (K := K1) (ad := ad) hav ho
  have hsame : ∀ x, s.fieldFound? (T j).1 (T j).2.1 (T j).2.2.1 = some x → s.fieldFound? C (T j).2.1 (T j).2.2.1 = some x := fun x hx => by rw [← h4]; exact hx
  have hd2 : parseFieldDescriptor (T j).2.2.1 = some ty := by rw [h5 j h2, h7]
  have hfo := gw_oke_fs hR.2.2 hav ho
  have hoke : gw_oke n (oB ci (fs.set j (.ref b))) := fun v hm => by
    rcases List.mem_or_eq_of_mem_set hm with q | q
    · exact hfo v q
    · rw [q]; exact gw_hd hv
  have hje : j < (fs.map (gw_V ad)).length := by rw [List.length_map]; exact hj
  have hev : (Sum.inr (ci, (fs.map (gw_V ad)).set j (Value.ref (ad b))) : va_E) = gw_tr K1 ad (oB ci (fs.set j (.ref b))) := by
    show _ = (Sum.inr (ci, (fs.set j (.ref b)).map (gw_V ad)) : va_E)
    rw [← gw_set_fs]; rfl
  exact va_putF (ci := ci) hx hb hts' h3 ty0 h5 h6 hown hK hR.1 hR.2.1 hS a hat h1 j h2 (hts _ hl rfl) hsame h8 hin (h4.trans hCo) hd2 (hty _).1 (hty _).2 hje hd (fun H1 locs1 hP1 hD1 hS1 => k ad H1 locs1 ls (gw_R.set hR.2.2 hav hoke hev hP1 hD1) hS1 ha hn hL (gw_tl (gw_tl hv)))
theorem gw_vpin {i len : Nat} {x : Int32} (hi : i < len) (hx : x = nI i) (hlen : len < 2147483648) : vp_in x len ∧ x.toNatClampNeg = i := by
  subst hx
  exact ⟨vp_in_nI hi hlen, nI_clamp (by omega)⟩
theorem g_iaload {l : Launch} {K : gw_K} {X : gw_X} {cc : ByteArray} {own : String} {F Lo MC MS pc : Nat} {L : List (Option Value)} {S : List Value} {h : gw_H} {n kc ks : Nat} {a len : Nat} {f : Nat → Int32} {ix : Int32} (hX : FX l K X cc own F Lo MC MS) (hd : decode cc pc = .ok (.iaload, 1)) (ho : h a = aI len f) (i : Nat) (hi : i < len) (hix : ix = nI i) (hlen : len < 2147483648) (k : GW X (pc + 1) L (.int (f i) :: S) h n kc ks) : GW X pc L (.int ix :: .ref a :: S) h n kc ks := by
  obtain ⟨p, l1, e, R, s, m, args, below, meth, c, A, Q, K1, ad0, n0⟩ := X
  obtain ⟨hx, hb, hown, hts, hK, hA, hsp, hz, rfl, rfl, rfl, hst, hlk⟩ := hX
  intro ad H locs ls hR hS ha hn hL hv
  have hav : a < n := gw_hd (gw_tl hv) a rfl
  have hat := gw_at (K := K1) (ad := ad) hav ho
  obtain ⟨q1, q2⟩ := gw_vpin hi hix hlen
  refine va_iald hx hb hK hR.1 a 0 hat rfl q1 hd ?_
  rw [q2]
  exact k ad H locs ls hR hS ha hn hL (gw_cs (gw_int n _) (gw_tl (gw_tl hv)))
theorem g_laload {l : Launch} {K : gw_K} {X : gw_X} {cc : ByteArray} {own : String} {F Lo MC MS pc : Nat} {L : List (Option Value)} {S : List Value} {h : gw_H} {n kc ks : Nat} {a len : Nat} {f : Nat → Int64} {ix : Int32} (hX : FX l K X cc own F Lo MC MS) (hd : decode cc pc = .ok (.laload, 1)) (ho : h a = aJ len f) (i : Nat) (hi : i < len) (hix : ix = nI i) (hlen : len < 2147483648) (k : GW X (pc + 1) L (.long (f i) :: S) h n kc ks) : GW X pc L (.int ix :: .ref a :: S) h n kc ks := by
  obtain ⟨p, l1, e, R, s, m, args, below, meth, c, A, Q, K1, ad0, n0⟩ := X
  obtain ⟨hx, hb, hown, hts, hK, hA, hsp, hz, rfl, rfl, rfl, hst, hlk⟩ := hX
  intro ad H locs ls hR hS ha hn hL hv
  have hav : a < n := gw_hd (gw_tl hv) a rfl
  have hat := gw_at (K := K1) (ad := ad) hav ho
  obtain ⟨q1, q2⟩ := gw_vpin hi hix hlen
  refine va_lald hx hb hK hR.1 a 1 hat rfl q1 hd ?_
  rw [q2]
  exact k ad H locs ls hR hS ha hn hL (gw_cs (gw_long n _) (gw_tl (gw_tl hv)))
theorem g_iastore {l : Launch} {K : gw_K} {X : gw_X} {cc : ByteArray} {own : String} {F Lo MC MS pc : Nat} {L : List (Option Value)} {S : List Value} {h : gw_H} {n kc ks : Nat} {a len : Nat} {f : Nat → Int32} {ix : Int32} {x : Int32} (hX : FX l K X cc own F Lo MC MS) (hd : decode cc pc = .ok (.iastore, 1)) (ho : h a = aI len f) (i : Nat) (hi : i < len) (hix : ix = nI i) (hlen : len < 2147483648) (k : GW X (pc + 1) L S (hs h a (aI len (upd f i x))) n kc ks) : GW X pc L (.int x :: .int ix :: .ref a :: S) h n kc ks := by
  obtain ⟨p, l1, e, R, s, m, args, below, meth, c, A, Q, K1, ad0, n0⟩ := X
  obtain ⟨hx, hb, hown, hts, hK, hA, hsp, hz, rfl, rfl, rfl, hst, hlk⟩ := hX
  intro ad H locs ls hR hS ha hn hL hv
  have hav : a < n := gw_hd (gw_tl (gw_tl hv)) a rfl
  have hat := gw_at (K := K1) (ad := ad) hav ho
  obtain ⟨q1, q2⟩ := gw_vpin hi hix hlen
  refine va_iast hx hb hK hR.1 hR.2.1 hS a 0 hat rfl q1 hd (fun H1 locs1 hP1 hD1 hS1 => ?_)
  rw [q2] at hP1 hD1
  exact k ad H1 locs1 ls (gw_R.set (e := aI len (upd f i x)) hR.2.2 hav trivial rfl hP1 hD1) hS1 ha hn hL (gw_tl (gw_tl (gw_tl hv)))
theorem g_lastore {l : Launch} {K : gw_K} {X : gw_X} {cc : ByteArray} {own : String} {F Lo MC MS pc : Nat} {L : List (Option Value)} {S : List Value} {h : gw_H} {n kc ks : Nat} {a len : Nat} {f : Nat → Int64} {ix : Int32} {x : Int64} (hX : FX l K X cc own F Lo MC MS) (hd : decode cc pc = .ok (.lastore, 1)) (ho : h a = aJ len f) (i : Nat) (hi : i < len) (hix : ix = nI i) (hlen : len < 2147483648) (k : GW X (pc + 1) L S (hs h a (aJ len (vp_updL f i x))) n kc ks) : GW X pc L (.long x :: .int ix :: .ref a :: S) h n kc ks := by
  obtain ⟨p, l1, e, R, s, m, args, below, meth, c, A, Q, K1, ad0, n0⟩ := X
  obtain ⟨hx, hb, hown, hts, hK, hA, hsp, hz, rfl, rfl, rfl, hst, hlk⟩ := hX
  intro ad H locs ls hR hS ha hn hL hv
  have hav : a < n := gw_hd (gw_tl (gw_tl hv)) a rfl
  have hat := gw_at (K := K1) (ad := ad) hav ho
  obtain ⟨q1, q2⟩ := gw_vpin hi hix hlen
  refine va_last hx hb hK hR.1 hR.2.1 hS a 1 hat rfl q1 hd (fun H1 locs1 hP1 hD1 hS1 => ?_)
  rw [q2] at hP1 hD1
  exact k ad H1 locs1 ls (gw_R.set (e := aJ len (vp_updL f i x)) hR.2.2 hav trivial rfl hP1 hD1) hS1 ha hn hL (gw_tl (gw_tl (gw_tl hv)))
theorem g_aaload {l : Launch} {K : gw_K} {X : gw_X} {cc : ByteArray} {own : String} {F Lo MC MS pc : Nat} {L : List (Option Value)} {S : List Value} {h : gw_H} {n kc ks : Nat} {a b len : Nat} {f : Nat → Option Nat} {ix : Int32} (hX : FX l K X cc own F Lo MC MS) (hd : decode cc pc = .ok (.aaload, 1)) (ho : h a = aQ len f) (i : Nat) (hi : i < len) (hix : ix = nI i) (hlen : len < 2147483648) (hf : f i = some b) (k : GW X (pc + 1) L (.ref b :: S) h n kc ks) : GW X pc L (.int ix :: .ref a :: S) h n kc ks := by
  obtain ⟨p, l1, e, R, s, m, args, below, meth, c, A, Q, K1, ad0, n0⟩ := X
  obtain ⟨hx, hb, hown, hts, hK, hA, hsp, hz, rfl, rfl, rfl, hst, hlk⟩ := hX
  intro ad H locs ls hR hS ha hn hL hv
  have hav : a < n := gw_hd (gw_tl hv) a rfl
  have hat := gw_at (K := K1) (ad := ad) hav ho
  obtain ⟨q1, q2⟩ := gw_vpin hi hix hlen
  have hbn : b < n := by
    have h1 := hR.2.2 a hav
    rw [ho] at h1
    exact h1 i b hf
  refine va_aldq hx hb hK hR.1 a 2 hat rfl q1 hd ?_
  rw [q2, hf]
  exact k ad H locs ls hR hS ha hn hL (gw_cs (gw_ref hbn) (gw_tl (gw_tl hv)))
theorem g_aastore {l : Launch} {K : gw_K} {X : gw_X} {cc : ByteArray} {own : String} {F Lo MC MS pc : Nat} {L : List (Option Value)} {S : List Value} {h : gw_H} {n kc ks : Nat} {a b len : Nat} {f : Nat → Option Nat} {fs : List Value} {ix : Int32} (hX : FX l K X cc own F Lo MC MS) (hd : decode cc pc = .ok (.aastore, 1)) (ho : h a = aQ len f) (i : Nat) (hi : i < len) (hix : ix = nI i) (hlen : len < 2147483648) (hob : h b = oB 0 fs) (k : GW X (pc + 1) L S (hs h a (aQ len (va_up f i (some b)))) n kc ks) : GW X pc L (.ref b :: .int ix :: .ref a :: S) h n kc ks := by
  obtain ⟨p, l1, e, R, s, m, args, below, meth, c, A, Q, K1, ad0, n0⟩ := X
  obtain ⟨hx, hb, hown, hts, hK, hA, hsp, hz, rfl, rfl, rfl, hst, hlk⟩ := hX
  intro ad H locs ls hR hS ha hn hL hv
  have hav : a < n := gw_hd (gw_tl (gw_tl hv)) a rfl
  have hbv : b < n := gw_hd hv b rfl
  have hat := gw_at (K := K1) (ad := ad) hav ho
  have hbt := gw_at (K := K1) (ad := ad) hbv hob
  obtain ⟨q1, q2⟩ := gw_vpin hi hix hlen
  refine va_astq (r := (RX0, TX0, 7)) hx hb hK hR.1 hR.2.1 hS a 2 b 0 hat rfl hbt rfl q1 hd (fun H1 locs1 hP1 hD1 hS1 => ?_)
  rw [q2] at hP1 hD1
  have hf := hR.2.2 a hav
  rw [ho] at hf
  have e1 : (va_up (fun j => (f j).map ad) i (some (ad b))) = fun j => ((va_up f i (some b)) j).map ad := by
    funext j
    unfold va_up
    split <;> rfl
  rw [e1] at hP1 hD1
  exact k ad H1 locs1 ls (gw_R.set (e := aQ len (va_up f i (some b))) hR.2.2 hav (fun j q hq => by
    unfold va_up at hq
    split at hq
    · cases hq; exact hbv
    · exact hf j q hq) rfl hP1 hD1) hS1 ha hn hL (gw_tl (gw_tl (gw_tl hv)))
theorem g_alen_aI {l : Launch} {K : gw_K} {X : gw_X} {cc : ByteArray} {own : String} {F Lo MC MS pc : Nat} {L : List (Option Value)} {S : List Value} {h : gw_H} {n kc ks : Nat} {a len : Nat} {f : Nat → Int32} (hX : FX l K X cc own F Lo MC MS) (hd : decode cc pc = .ok (.arraylength, 1)) (ho : h a = aI len f) (k : GW X (pc + 1) L (.int (nI len) :: S) h n kc ks) : GW X pc L (.ref a :: S) h n kc ks := by
  obtain ⟨p, l1, e, R, s, m, args, below, meth, c, A, Q, K1, ad0, n0⟩ := X
  obtain ⟨hx, hb, hown, hts, hK, hA, hsp, hz, rfl, rfl, rfl, hst, hlk⟩ := hX
  intro ad H locs ls hR hS ha hn hL hv
  have hav : a < n := gw_hd hv a rfl
  have hat := gw_at (K := K1) (ad := ad) hav ho
  exact va_alen hx hb hK hR.1 a 0 hat rfl rfl hd (k ad H locs ls hR hS ha hn hL (gw_cs (gw_int n _) (gw_tl hv)))
theorem g_alen_aJ {l : Launch} {K : gw_K} {X : gw_X} {cc : ByteArray} {own : String} {F Lo MC MS pc : Nat} {L : List (Option Value)} {S : List Value} {h : gw_H} {n kc ks : Nat} {a len : Nat} {f : Nat → Int64} (hX : FX l K X cc own F Lo MC MS) (hd : decode cc pc = .ok (.arraylength, 1)) (ho : h a = aJ len f) (k : GW X (pc + 1) L (.int (nI len) :: S) h n kc ks) : GW X pc L (.ref a :: S) h n kc ks := by
  obtain ⟨p, l1, e, R, s, m, args, below, meth, c, A, Q, K1, ad0, n0⟩ := X
  obtain ⟨hx, hb, hown, hts, hK, hA, hsp, hz, rfl, rfl, rfl, hst, hlk⟩ := hX
  intro ad H locs ls hR hS ha hn hL hv
  have hav : a < n := gw_hd hv a rfl
  have hat := gw_at (K := K1) (ad := ad) hav ho
  exact va_alen hx hb hK hR.1 a 1 hat rfl rfl hd (k ad H locs ls hR hS ha hn hL (gw_cs (gw_int n _) (gw_tl hv)))
def gw_plain (fs : List Value) : Bool := fs.all fun v => match v with
  | .ref _ => false
  | _ => true
theorem gw_plain_ok {fs : List Value} (h : gw_plain fs = true) (n : Nat) : ∀ v ∈ fs, gw_ok n v := by
  intro v hv k hk
  have h1 := List.all_eq_true.mp h v hv
  subst hk
  simp at h1
theorem gw_plain_map {fs : List Value} (h : gw_plain fs = true) (ad : Nat → Nat) : fs.map (gw_V ad) = fs := by
  have h1 : fs.map (gw_V ad) = fs.map id := List.map_congr_left fun v hv => by
    have h1 := List.all_eq_true.mp h v hv
    cases v with
    | ref k => simp at h1
    | _ => rfl
  rw [h1, List.map_id]
/-- one cell more, at the address q -/
theorem gw_push {K : gw_K} {ad : Nat → Nat} {n q : Nat} {h : gw_H} {A : Nat → Prop} {H1 : Heap} {e : gw_E} {v : va_E} (hok : ∀ k, k < n → gw_oke n (h k)) (he : gw_oke (n + 1) e) (hv : v = gw_tr K (fun j => if j = n then q else ad j) e) (hP : va_P K.1 vwCl (gw_ws K ad n h ++ [(q, v)]) H1) (hD : va_D A (gw_ws K ad n h ++ [(q, v)])) :
    gw_R K (fun j => if j = n then q else ad j) (n + 1) (hs h n e) A H1 := by
  have ha : ∀ k, k < n → (fun j => if j = n then q else ad j) k = ad k := fun k hk => by simp [Nat.ne_of_lt hk]
  have e1 := gw_ws_push (K := K) (ad := ad) (ad' := fun j => if j = n then q else ad j) (e := e) (h := h) ha hok
  subst hv
  simp only [if_pos] at e1
  rw [e1] at hP hD
  refine ⟨hP, hD, fun k hk => ?_⟩
  by_cases q : k = n
  · subst q; rw [hs_eq]; exact he
  · rw [hs_ne q]; exact gw_oke_up (Nat.le_succ n) (hok k (by omega))
/-- the walk goes on with one cell more -/
theorem gw_more {p : Program} {l : Launch} {e : Env} {R : Room} {s : State} {m : MethodId} {args : Array Value} {below : List Frame} {meth : Method} {c : Code} {A : Nat → Prop} {Q : State → Prop} {K : gw_K} {ad0 : Nat → Nat} {n0 pc n q kc ks : Nat} {L : List (Option Value)} {S : List Value} {h : gw_H} {ad : Nat → Nat} {H1 : Heap} {locs : List Loc} {ls : Array Slot}
    (k : GW (p, l, e, R, s, m, args, below, meth, c, A, Q, K, ad0, n0) pc L (.ref n :: S) h (n + 1) kc ks) (hR : gw_R K (fun j => if j = n then q else ad j) (n + 1) h A H1) (hS : va_S A s.heap H1 locs) (ha : ∀ k, k < n0 → ad k = ad0 k) (hn : n0 ≤ n) (hL : gw_L ad n c.maxLocals ls L) (hv : ∀ v ∈ S, gw_ok n v) :
    W p l e R s m args below meth c H1 locs kc ks Q (F0 m pc ls (.ref q :: S.map (gw_V ad))) := by
  have ha1 : ∀ k, k < n → (fun j => if j = n then q else ad j) k = ad k := fun k hk => by simp [Nat.ne_of_lt hk]
  have h1 := k (fun j => if j = n then q else ad j) H1 locs ls hR hS (fun j hj => (ha1 j (by omega)).trans (ha j hj)) (by omega) (hL.ad ha1 (Nat.le_succ n)) (gw_cs (gw_ref (Nat.lt_succ_self n)) (gw_oks_up (Nat.le_succ n) hv))
  have e1 : (.ref n :: S).map (gw_V (fun j => if j = n then q else ad j)) = .ref q :: S.map (gw_V ad) := by
    rw [List.map_cons, gw_map_ad ha1 hv]
    simp [gw_V]
  rw [e1] at h1
  exact h1
/-- class ci by entry idx of own's pool, its fields' first values fs -/
def NL (own : String) (idx ci N : Nat) (fs : List Value) : Prop := ∃ (C : String) (T : u_T) (ty0 : Nat → FieldType), vwCl[ci]? = some (C, T, N) ∧ (∀ w ∈ u_ws C T N, w ∈ lw_tbl.filter goodWord) ∧ (∀ k, k < N → parseFieldDescriptor (T k).2.2.1 = some (ty0 k)) ∧ (∀ j, j < N → defaultValue (ty0 j) = vp_V fs j) ∧ gw_plain fs = true ∧ Cond.classLink own idx C ∈ lw_tbl ∧ Cond.instantiable C N ∈ lw_tbl ∧ Cond.initialized C ∈ lw_tbl
theorem gw_mem {w : Cond} (h : w ∈ lw_tbl) (g : goodWord w = true) : w ∈ lw_tbl.filter goodWord := List.mem_filter.mpr ⟨h, g⟩
theorem g_new {l : Launch} {K : gw_K} {X : gw_X} {cc : ByteArray} {own : String} {F Lo MC MS pc : Nat} {L : List (Option Value)} {S : List Value} {h : gw_H} {n kc ks : Nat} {idx ci N : Nat} {fs : List Value} (hX : FX l K X cc own F Lo MC MS) (hd : decode cc pc = .ok (.new idx, 3)) (hf : NL own idx ci N fs) (hc1 : kc + 1 ≤ MC) (hc2 : ks + N ≤ MS) (k : GW X (pc + 3) L (.ref n :: S) (hs h n (oB ci fs)) (n + 1) (kc + 1) (ks + N)) : GW X pc L S h n kc ks := by
  obtain ⟨p, l1, e, R, s, m, args, below, meth, c, A, Q, K1, ad0, n0⟩ := X
  obtain ⟨hx, hb, hown, hts, hK, hA, hsp, hz, rfl, rfl, rfl, hst, hlk⟩ := hX
  intro ad H locs ls hR hS ha hn hL hv
  obtain ⟨C, T, ty0, h1, h2, h3, h4, h5, h6, h7, h8⟩ := hf
  have hts' : ∀ w ∈ lw_tbl.filter goodWord, w.before args s = true := fun w hw => hts w (List.mem_filter.mp hw).1 (List.mem_filter.mp hw).2
  refine va_new (ci := ci) (fs := fs) hx hb hts' h2 ty0 h3 hown (hts _ h6 rfl) (hts _ h7 rfl) (hts _ h8 rfl) hK hR.1 hR.2.1 hS hA h1 h4 hc1 hc2 hd (fun q H1 hP1 hD1 hS1 => ?_)
  exact gw_more k (gw_push (e := oB ci fs) hR.2.2 (gw_plain_ok h5 _) (by show _ = (Sum.inr (ci, fs.map (gw_V _)) : va_E); rw [gw_plain_map h5]) hP1 hD1) hS1 ha hn hL hv
theorem g_newa_aI {l : Launch} {K : gw_K} {X : gw_X} {cc : ByteArray} {own : String} {F Lo MC MS pc : Nat} {L : List (Option Value)} {S : List Value} {h : gw_H} {n kc ks : Nat} {x : Int32} (hX : FX l K X cc own F Lo MC MS) (hd : decode cc pc = .ok (.newarray .int, 2)) (hw : Cond.arrayClass .int ∈ lw_tbl) (N : Nat) (hN : x = nI N) (hN2 : N < 1000) (hc1 : kc + 1 ≤ MC) (hc2 : ks + N ≤ MS) (k : GW X (pc + 2) L (.ref n :: S) (hs h n (aI N (fun _ => 0))) (n + 1) (kc + 1) (ks + N)) : GW X pc L (.int x :: S) h n kc ks := by
  obtain ⟨p, l1, e, R, s, m, args, below, meth, c, A, Q, K1, ad0, n0⟩ := X
  obtain ⟨hx, hb, hown, hts, hK, hA, hsp, hz, rfl, rfl, rfl, hst, hlk⟩ := hX
  intro ad H locs ls hR hS ha hn hL hv
  subst hN
  refine va_newa (atype := .int) (a0 := (N, .inl (fun _ => 0))) (N' := N) hx hb (hts _ hw rfl) rfl hK hR.1 hR.2.1 hS hA (fun _ => rfl) (nI_pos (by omega)) (nI_clamp (by omega)) (by show N * 4 ≤ _; omega) hc1 hc2 hd (fun q cA H1 hK1 hP1 hD1 hS1 => ?_)
  have hcA : cA = K1.2.1 := by
    have g1 := (hK1.2 3 _ rfl).2
    have g2 := (hK.2 0 _ rfl).2
    exact Option.some.inj (g1.symm.trans g2)
  subst hcA
  exact gw_more k (gw_push (e := aI N (fun _ => 0)) hR.2.2 trivial rfl hP1 hD1) hS1 ha hn hL (gw_tl hv)
theorem g_newa_aJ {l : Launch} {K : gw_K} {X : gw_X} {cc : ByteArray} {own : String} {F Lo MC MS pc : Nat} {L : List (Option Value)} {S : List Value} {h : gw_H} {n kc ks : Nat} {x : Int32} (hX : FX l K X cc own F Lo MC MS) (hd : decode cc pc = .ok (.newarray .long, 2)) (hw : Cond.arrayClass .long ∈ lw_tbl) (N : Nat) (hN : x = nI N) (hN2 : N < 1000) (hc1 : kc + 1 ≤ MC) (hc2 : ks + N ≤ MS) (k : GW X (pc + 2) L (.ref n :: S) (hs h n (aJ N (fun _ => 0))) (n + 1) (kc + 1) (ks + N)) : GW X pc L (.int x :: S) h n kc ks := by
  obtain ⟨p, l1, e, R, s, m, args, below, meth, c, A, Q, K1, ad0, n0⟩ := X
  obtain ⟨hx, hb, hown, hts, hK, hA, hsp, hz, rfl, rfl, rfl, hst, hlk⟩ := hX
  intro ad H locs ls hR hS ha hn hL hv
  subst hN
  refine va_newa (atype := .long) (a0 := (N, .inr (.inl (fun _ => 0)))) (N' := N) hx hb (hts _ hw rfl) rfl hK hR.1 hR.2.1 hS hA (fun _ => rfl) (nI_pos (by omega)) (nI_clamp (by omega)) (by show N * 8 ≤ _; omega) hc1 hc2 hd (fun q cA H1 hK1 hP1 hD1 hS1 => ?_)
  have hcA : cA = K1.2.2.1 := by
    have g1 := (hK1.2 3 _ rfl).2
    have g2 := (hK.2 1 _ rfl).2
    exact Option.some.inj (g1.symm.trans g2)
  subst hcA
  exact gw_more k (gw_push (e := aJ N (fun _ => 0)) hR.2.2 trivial rfl hP1 hD1) hS1 ha hn hL (gw_tl hv)
theorem g_newaQ {l : Launch} {K : gw_K} {X : gw_X} {cc : ByteArray} {own : String} {F Lo MC MS pc : Nat} {L : List (Option Value)} {S : List Value} {h : gw_H} {n kc ks : Nat} {idx : Nat} {x : Int32} (hX : FX l K X cc own F Lo MC MS) (hd : decode cc pc = .ok (.anewarray idx, 3)) (hw : Cond.classLink own idx RX0 ∈ lw_tbl) (N : Nat) (hN : x = nI N) (hN2 : N < 1000) (hc1 : kc + 1 ≤ MC) (hc2 : ks + N ≤ MS) (k : GW X (pc + 3) L (.ref n :: S) (hs h n (aQ N (fun _ => none))) (n + 1) (kc + 1) (ks + N)) : GW X pc L (.int x :: S) h n kc ks := by
  obtain ⟨p, l1, e, R, s, m, args, below, meth, c, A, Q, K1, ad0, n0⟩ := X
  obtain ⟨hx, hb, hown, hts, hK, hA, hsp, hz, rfl, rfl, rfl, hst, hlk⟩ := hX
  intro ad H locs ls hR hS ha hn hL hv
  subst hN
  refine va_newq (N' := N) hx hb hown (hts _ hw rfl) hsp.2.1 hK hR.1 hR.2.1 hS hA (nI_pos (by omega)) (nI_clamp (by omega)) (by omega) hc1 hc2 hd (fun q cA H1 hK1 hP1 hD1 hS1 => ?_)
  have hcA : cA = K1.2.2.2 := by
    obtain ⟨kA, comp, -, -, -, g1⟩ := (hK1.2 3 _ rfl).2
    obtain ⟨kA2, comp2, -, -, -, g2⟩ := (hK.2 2 _ rfl).2
    exact Option.some.inj (g1.symm.trans g2)
  subst hcA
  exact gw_more k (gw_push (e := aQ N (fun _ => none)) hR.2.2 (fun j k hk => nomatch hk) rfl hP1 hD1) hS1 ha hn hL (gw_tl hv)
theorem g_objInit {l : Launch} {K : gw_K} {X : gw_X} {cc : ByteArray} {own : String} {F Lo MC MS pc : Nat} {L : List (Option Value)} {S : List Value} {h : gw_H} {n kc ks : Nat} {idx a : Nat} (hX : FX l K X cc own F Lo MC MS) (hd : decode cc pc = .ok (.invokespecial idx, 3)) (hl : Cond.methodLink own idx Lib.objectInit ∈ lw_tbl) (hi : Cond.instanceMethod Lib.objectInit ∈ lw_tbl) (hc : Cond.code Lib.objectInit ⟨#[0xb1]⟩ 1 none ∈ lw_tbl) (hF : 1 ≤ F) (hLo : (S.map fun v => v.category).sum + 12 ≤ Lo) (k : GW X (pc + 3) L S h n kc ks) : GW X pc L (.ref a :: S) h n kc ks := by
  obtain ⟨p, l1, e, R, s, m, args, below, meth, c, A, Q, K1, ad0, n0⟩ := X
  obtain ⟨hx, hb, hown, hts, hK, hA, hsp, hz, rfl, rfl, rfl, hst, hlk⟩ := hX
  intro ad H locs ls hR hS ha hn hL hv
  refine W.objInit hx hb hown (hts _ hl rfl) (hts _ hi rfl) (hts _ hc rfl) rfl hL.1 rfl hd hF ?_ ?_
  · show 2 * 0 + ((S.map (gw_V ad)).map fun v => v.category).sum + 12 ≤ Lo
    rw [List.map_map, show ((fun v : Value => v.category) ∘ gw_V ad) = (fun v => v.category) from funext fun v => gw_cat ad v]
    omega
  · exact k ad H locs ls hR hS ha hn hL (gw_tl hv)
theorem gw_cats (ad : Nat → Nat) (S : List Value) : ((S.map (gw_V ad)).map fun v => v.category).sum = (S.map fun v => v.category).sum := by
  rw [List.map_map, show ((fun v : Value => v.category) ∘ gw_V ad) = (fun v => v.category) from funext fun v => gw_cat ad v]
theorem g_mmax {l : Launch} {K : gw_K} {X : gw_X} {cc : ByteArray} {own : String} {F Lo MC MS pc : Nat} {L : List (Option Value)} {S : List Value} {h : gw_H} {n kc ks : Nat} {idx : Nat} {x y : Int32} (hX : FX l K X cc own F Lo MC MS) (hd : decode cc pc = .ok (.invokestatic idx, 3)) (hl : Cond.methodLink own idx Lib.Math.max.name ∈ lw_tbl) (h1 : Cond.static Lib.Math.max.name ∈ lw_tbl) (h2 : Cond.initialized "java/lang/Math" ∈ lw_tbl) (h3 : Cond.code Lib.Math.max.name Lib.Math.max.code 2 (some .int) ∈ lw_tbl) (hF : 1 ≤ F) (hLo : (S.map fun v => v.category).sum + 13 ≤ Lo) (hc1 : kc ≤ MC) (hc2 : ks ≤ MS) (k : GW X (pc + 3) L (.int (if x < y then y else x) :: S) h n kc ks) : GW X pc L (.int y :: .int x :: S) h n kc ks := by
  obtain ⟨p, l1, e, R, s, m, args, below, meth, c, A, Q, K1, ad0, n0⟩ := X
  obtain ⟨hx, hb, hown, hts, hK, hA, hsp, hz, rfl, rfl, rfl, hst, hlk⟩ := hX
  intro ad H locs ls hR hS ha hn hL hv
  exact va_mmax hx hb hL.1.symm hown (hts _ hl rfl) (hts _ h1 rfl) (hts _ h2 rfl) (hts _ h3 rfl) hF (by rw [gw_cats]; exact hLo) hc1 hc2 hd (k ad H locs ls hR hS ha hn hL (gw_cs (gw_int n _) (gw_tl (gw_tl hv))))
theorem g_mmin {l : Launch} {K : gw_K} {X : gw_X} {cc : ByteArray} {own : String} {F Lo MC MS pc : Nat} {L : List (Option Value)} {S : List Value} {h : gw_H} {n kc ks : Nat} {idx : Nat} {x y : Int32} (hX : FX l K X cc own F Lo MC MS) (hd : decode cc pc = .ok (.invokestatic idx, 3)) (hl : Cond.methodLink own idx Lib.Math.min.name ∈ lw_tbl) (h1 : Cond.static Lib.Math.min.name ∈ lw_tbl) (h2 : Cond.initialized "java/lang/Math" ∈ lw_tbl) (h3 : Cond.code Lib.Math.min.name Lib.Math.min.code 2 (some .int) ∈ lw_tbl) (hF : 1 ≤ F) (hLo : (S.map fun v => v.category).sum + 13 ≤ Lo) (hc1 : kc ≤ MC) (hc2 : ks ≤ MS) (k : GW X (pc + 3) L (.int (if y < x then y else x) :: S) h n kc ks) : GW X pc L (.int y :: .int x :: S) h n kc ks := by
  obtain ⟨p, l1, e, R, s, m, args, below, meth, c, A, Q, K1, ad0, n0⟩ := X
  obtain ⟨hx, hb, hown, hts, hK, hA, hsp, hz, rfl, rfl, rfl, hst, hlk⟩ := hX
  intro ad H locs ls hR hS ha hn hL hv
  exact va_mmin hx hb hL.1.symm hown (hts _ hl rfl) (hts _ h1 rfl) (hts _ h2 rfl) (hts _ h3 rfl) hF (by rw [gw_cats]; exact hLo) hc1 hc2 hd (k ad H locs ls hR hS ha hn hL (gw_cs (gw_int n _) (gw_tl (gw_tl hv))))
theorem g_copyi {l : Launch} {K : gw_K} {X : gw_X} {cc : ByteArray} {own : String} {F Lo MC MS pc : Nat} {L : List (Option Value)} {S : List Value} {h : gw_H} {n kc ks : Nat} {idx a b n1 n2 : Nat} {f g : Nat → Int32} {x : Int32} (hX : FX l K X cc own F Lo MC MS) (hd : decode cc pc = .ok (.invokestatic idx, 3)) (hl : Cond.methodLink own idx arraycopyName ∈ lw_tbl) (h1 : Cond.native arraycopyName ∈ lw_tbl) (h2 : Cond.static arraycopyName ∈ lw_tbl) (h3 : Cond.initialized "java/lang/System" ∈ lw_tbl) (ho : h b = aI n1 f) (ho2 : h a = aI n2 g) (N : Nat) (hN : x = nI N) (hN1 : N ≤ n1) (hN2 : N ≤ n2) (hlt : N < 2147483648) (hF : 1 ≤ F) (hLo : (S.map fun v => v.category).sum + (nativeFrameWords "java/lang/System" "arraycopy" 5 + 11) ≤ Lo) (k : GW X (pc + 3) L S (hs h a (aI n2 (va_cpy f g 0 0 N))) n kc ks) : GW X pc L (.int x :: .int 0 :: .ref a :: .int 0 :: .ref b :: S) h n kc ks := by
  obtain ⟨p, l1, e, R, s, m, args, below, meth, c, A, Q, K1, ad0, n0⟩ := X
  obtain ⟨hx, hb, hown, hts, hK, hA, hsp, hz, rfl, rfl, rfl, hst, hlk⟩ := hX
  intro ad H locs ls hR hS ha hn hL hv
  subst hN
  have hav : a < n := gw_hd (gw_tl (gw_tl hv)) a rfl
  have hbv : b < n := gw_hd (gw_tl (gw_tl (gw_tl (gw_tl hv)))) b rfl
  have hat := gw_at (K := K1) (ad := ad) hav ho2
  have hbt := gw_at (K := K1) (ad := ad) hbv ho
  have hz0 : (0 : Int32).toNatClampNeg = 0 := rfl
  have hcl : (nI N).toNatClampNeg = N := nI_clamp hlt
  refine va_copyi hx hb hL.1.symm hown (hts _ hl rfl) (hts _ h1 rfl) (hts _ h2 rfl) (hts _ h3 rfl) hK hR.1 hR.2.1 hS b a 0 0 hbt hat rfl rfl rfl (by decide) (by decide) (nI_pos hlt) (by rw [hz0, hcl]; omega) (by rw [hz0, hcl]; omega) (fun i hi => rfl) hF (by rw [gw_cats]; exact hLo) hd (fun H1 locs1 hP1 hD1 hS1 => ?_)
  rw [hz0, hcl] at hP1 hD1
  exact k ad H1 locs1 ls (gw_R.set (e := aI n2 (va_cpy f g 0 0 N)) hR.2.2 hav trivial rfl hP1 hD1) hS1 ha hn hL (gw_tl (gw_tl (gw_tl (gw_tl (gw_tl hv)))))
end
section
theorem gw_P.blind {K : gw_K} {ad : Nat → Nat} {n sz : Nat} {As : List Value} {h : gw_H} : FrameBlind (gw_P K ad n As h sz) := fun a U g mk q => by
  obtain ⟨q1, q2, q3, q4, q5, q6, q7⟩ := q
  exact ⟨q1, q2, q3, q4, va_K.moved (u := U) (U := U.calling g mk a) (Vm.Alike.refl U.vm) q5, gw_S.same (s := U) (U := U.calling g mk a) rfl q6, gw_Z.moved (u := U) (U := U.calling g mk a) (Vm.Alike.refl U.vm) q7⟩
/-- what the callee finds at its start -/
theorem gw_pre {K : gw_K} {ad : Nat → Nat} {n : Nat} {As : List Value} {h : gw_H} {A : Nat → Prop} {s : State} {H : Heap} {locs : List Loc} (hR : gw_R K ad n h A H) (hS : va_S A s.heap H locs) (hA : ∀ q, s.heap.size ≤ q → A q) (hK : va_K K.1 vwCl (gw_tys K) s) (hsp : gw_S s) (hz : gw_Z A s s.heap) (hok : ∀ v ∈ As, gw_ok n v) :
    ∀ U : State, U.heap = H → s.WarmedH U.vm → gw_P K ad n As h H.size (As.map (gw_V ad)).toArray U := fun U hU hW => by
  have hsub : ∀ q, gw_fr ad n H.size q → A q := fun q hq => by
    rcases hq with ⟨k, hk, rfl⟩ | hq
    · exact hR.2.1.2 k _ (gw_ws_at hk)
    · exact hA q (Nat.le_trans hS.1 hq)
  refine ⟨rfl, by rw [hU], by rw [hU]; exact hR.weaken fun _ _ _ => trivial, hok, va_K.moved hW.alike hK, gw_S.warm hW hsp, ?_⟩
  have h1 : gw_Z (gw_fr ad n H.size) s H := (hz.kept fun a ha hn => hS.2.1 a ha hn).narrow hsub
  rw [hU]
  exact gw_Z.moved hW.alike h1
/-- behind a call -/
theorem gw_run {p : Program} {l : Launch} {e : Env} {R : Room} {s : State} {m : MethodId} {args : Array Value} {below : List Frame} {meth : Method} {c : Code} {A : Nat → Prop} {Q : State → Prop} {K : gw_K} {ad0 : Nat → Nat} {n0 pc n kc ks mc ms : Nat} {L : List (Option Value)} {S : List Value} {h : gw_H} {ad : Nat → Nat} {H : Heap} {locs : List Loc} {ls : Array Slot} {st0 : List Value} {aa : Array Value} {Post : Option Value → gw_H → Nat → Prop} {PX : String → gw_H → Nat → Prop}
    (hr : vx_Run p l e R s m args below meth c H locs kc ks mc ms (F0 m pc ls st0) (S.map (gw_V ad)) (gw_Q K ad n H.size Post aa) (gw_XC K ad n H.size PX) (gw_fr ad n H.size))
    (hR : gw_R K ad n h A H) (hS : va_S A s.heap H locs) (hA : ∀ q, s.heap.size ≤ q → A q) (ha : ∀ k, k < n0 → ad k = ad0 k) (hn : n0 ≤ n) (hL : gw_L ad n c.maxLocals ls L) (hv : ∀ v ∈ S, gw_ok n v)
    (kk : ∀ (rv : Option Value) (h' : gw_H) (n' : Nat), n ≤ n' → Post rv h' n' → GW (p, l, e, R, s, m, args, below, meth, c, A, Q, K, ad0, n0) (pc + 3) L (rv.toList ++ S) h' n' (kc + mc) (ks + ms))
    (kx : ∀ (E : String) (h' : gw_H) (n' : Nat), n ≤ n' → PX E h' n' → GX (p, l, e, R, s, m, args, below, meth, c, A, Q, K, ad0, n0) pc L E h' n' (kc + mc) (ks + ms)) :
    W p l e R s m args below meth c H locs kc ks Q (F0 m pc ls st0) := by
  have hsub : ∀ q, gw_fr ad n H.size q → A q := fun q hq => by
    rcases hq with ⟨k, hk, rfl⟩ | hq
    · exact hR.2.1.2 k _ (gw_ws_at hk)
    · exact hA q (Nat.le_trans hS.1 hq)
  intro T hT X
  rcases hr T hT X with ⟨v, st₀, t, T', L1, h0, X', hL1, e1, e2, ⟨⟨rv, h', n', ad', hrv, hp, had, hn', hR', hok⟩, hF⟩, st⟩ | ⟨q, st₀, t, T', L1, E, ce, h0, X', hL1, e1, e2, ⟨⟨h', n', ad', hp, had, hn', hR'⟩, hF⟩, hce, hcv, hcl, st⟩
  · cases hrv
    obtain ⟨k1, k2, k3⟩ := vx_keep h0 e1 hS (fun q _ hq => hsub q hq) hsub hL1 hF
    have hg := kk rv h' n' hn' hp ad' T'.heap (locs ++ L1) ls (by rw [e1]; exact hR'.weaken fun k hk hq => hsub _ hq) k3 (fun k hk => by rw [had k (by omega)]; exact ha k hk) (by omega) (hL.ad had hn') (fun w hw => by
      rcases List.mem_append.mp hw with hw | hw
      · exact hok w (by cases rv with
          | none => cases hw
          | some x => simp at hw; rw [hw])
      · exact gw_ok_up hn' (hv w hw))
    have e3 : (rv.toList ++ S).map (gw_V ad') = (rv.map (gw_V ad')).toList ++ S.map (gw_V ad) := by
      rw [List.map_append, gw_map_ad had hv]
      cases rv <;> rfl
    rw [e3] at hg
    obtain ⟨t2, a1, b1⟩ := hg T' rfl X'
    exact ⟨t2, st t2 a1, b1⟩
  · obtain ⟨k1, k2, k3⟩ := vx_keep h0 e1 hS (fun q _ hq => hsub q hq) hsub hL1 hF
    have hg := kx E h' n' hn' hp ad' T'.heap (locs ++ L1) ls q ce (S.map (gw_V ad)) (by rw [e1]; exact hR'.weaken fun k hk hq => hsub _ hq) k3 (fun k hk => by rw [had k (by omega)]; exact ha k hk) (by omega) (hL.ad had hn') (by rw [e1]; exact hce) hcv hcl
    obtain ⟨t2, a1, b1⟩ := hg T' rfl X'
    exact ⟨t2, st.trans a1, b1⟩
/-- what the tables say of a method that is called by entry idx of own's pool -/
def CLb (M : gw_M) (np : Nat) : Prop := Cond.code M.1 M.2.1 M.2.2.1 M.2.2.2.1 ∈ lw_tbl ∧ Cond.initialized M.1.cls ∈ lw_tbl ∧ (M.1.cls ≠ "java/lang/invoke/MethodHandle" ∧ M.1.cls ≠ "java/lang/invoke/VarHandle") ∧ (parseMethodDescriptor M.1.desc).map (fun d => d.parameters.length) = some np
theorem gw_good {s : State} {args : Array Value} {M : gw_M} (hts : ∀ w ∈ lw_tbl, goodWord w = true → w.before args s = true) (hc : Cond.code M.1 M.2.1 M.2.2.1 M.2.2.2.1 ∈ lw_tbl) : ∀ w ∈ gw_w M, ∀ (a' : Array Value) (U : State), s.WarmedH U.vm → w.before a' U = true := fun w hw a' U hW => by
  rcases List.mem_cons.mp hw with rfl | hw
  · exact word_at hW (good_of_word rfl) (hts _ hc rfl)
  · obtain ⟨h1, h2⟩ := List.mem_filter.mp hw
    exact word_at hW (good_of_word h2) (hts w h1 h2)
theorem gw_cb {R : Room} {s : State} {args : Array Value} {own : String} {idx : Nat} {M : gw_M} {np mc ms : Nat} (hts : ∀ w ∈ lw_tbl, goodWord w = true → w.before args s = true) (hM : CLb M np) (hl : (Cond.methodLink own idx M.1).before args s = true) (hF : M.2.2.2.2.1 + 1 ≤ R.frames) (hLo : 8 + (M.2.2.1 + 11) + M.2.2.2.2.2 ≤ R.locals) :
    CallB R s args own idx M.1 M.2.1 M.2.2.1 M.2.2.2.1 (gw_w M) { frames := M.2.2.2.2.1, cells := mc, slots := ms, locals := M.2.2.2.2.2 } mc ms np := by
  obtain ⟨h1, h2, h3, h4⟩ := hM
  refine ⟨rfl, rfl, hF, hLo, gw_good hts h1, List.mem_cons_self, hts _ h1 rfl, hts _ h2 rfl, h3, fun sig hs => ?_, hl⟩
  rw [hs] at h4
  exact (Option.some.inj h4).symm

theorem g_callV {l : Launch} {K : gw_K} {X : gw_X} {cc : ByteArray} {own : String} {F Lo MC MS pc : Nat} {L : List (Option Value)} {S S0 : List Value} {h : gw_H} {n kc ks : Nat} {M : gw_M} {idx np mc ms : Nat} {Post : Option Value → gw_H → Nat → Prop} {PX : String → gw_H → Nat → Prop} {As : List Value} {b ci : Nat} {fs : List Value}  (hX : FX l K X cc own F Lo MC MS) (hd : decode cc pc = .ok (.invokevirtual idx, 3)) (hM : CLb M np) (hl : Cond.methodLink own idx M.1 ∈ lw_tbl) (hi : Cond.instanceMethod M.1 ∈ lw_tbl) (hsel : Cond.selects M.1.cls M.1 M.1 ∈ lw_tbl) (hnp : As.length = np) (hS0 : S0 = As.reverse ++ .ref b :: S) (ho : h b = oB ci fs) (hci : ∃ r, vwCl[ci]? = some r ∧ r.1 = M.1.cls) (hctr : Ctr l K M (.ref b :: As) h n mc ms Post PX) (hF : M.2.2.2.2.1 + 1 ≤ F) (hLo : 8 + (M.2.2.1 + 11) + M.2.2.2.2.2 ≤ Lo) (hC : kc + mc ≤ MC) (hCs : ks + ms ≤ MS) (hst8 : (S.map fun v => v.category).sum ≤ 8) (kx : ∀ (E : String) (h' : gw_H) (n' : Nat), n ≤ n' → PX E h' n' → GX X pc L E h' n' (kc + mc) (ks + ms)) (kk : ∀ (rv : Option Value) (h' : gw_H) (n' : Nat), n ≤ n' → Post rv h' n' → GW X (pc + 3) L (rv.toList ++ S) h' n' (kc + mc) (ks + ms)) : GW X pc L S0 h n kc ks := by
  obtain ⟨p, l1, e, R, s, m, args, below, meth, c, A, Q, K1, ad0, n0⟩ := X
  obtain ⟨hx, hb, hown, hts, hK, hA, hsp, hz, rfl, rfl, rfl, hst, hlk⟩ := hX
  intro ad H locs ls hR hS ha hn hL hv
  have hbn : b < n := hv _ (by rw [hS0]; exact List.mem_append_right _ List.mem_cons_self) b rfl
  have hokA : ∀ v ∈ (.ref b :: As), gw_ok n v := gw_cs (gw_ref hbn) fun v hvv => hv v (by rw [hS0]; exact List.mem_append_left _ (List.mem_reverse.mpr hvv))
  have hokS : ∀ v ∈ S, gw_ok n v := fun v hvv => hv v (by rw [hS0]; exact List.mem_append_right _ (List.mem_cons_of_mem _ hvv))
  obtain ⟨r, hr1, hr2⟩ := hci
  have hrecv := va_recv hK hR.1 hr1 (gw_at (K := K1) (ad := ad) hbn ho)
  rw [hr2] at hrecv
  have hpre := gw_pre hR hS hA hK hsp hz hokA
  have hstk : S0.map (gw_V ad) = (As.map (gw_V ad)).reverse ++ .ref (ad b) :: S.map (gw_V ad) := by rw [hS0, List.map_append, List.map_reverse]; rfl
  refine gw_run (L := L) (S := S) (vx_runV (As := As.map (gw_V ad)) ⟨hx, hb, rfl, hown, vx_n⟩ (hctr ad H.size) ⟨gw_cb hts hM (hts _ hl rfl) hF hLo, hts _ hi rfl, hts _ hsel rfl⟩ ⟨gw_P.blind, hrecv, hpre⟩ rfl (by rw [List.length_map]; exact hnp) hL.1 hstk (by show 2 * 0 + ((S.map (gw_V ad)).map fun v => v.category).sum ≤ 8; rw [gw_cats]; omega) hd ⟨hC, hCs⟩) hR hS hA ha hn hL hokS kk kx
theorem g_callS {l : Launch} {K : gw_K} {X : gw_X} {cc : ByteArray} {own : String} {F Lo MC MS pc : Nat} {L : List (Option Value)} {S S0 : List Value} {h : gw_H} {n kc ks : Nat} {M : gw_M} {idx np mc ms : Nat} {Post : Option Value → gw_H → Nat → Prop} {PX : String → gw_H → Nat → Prop} {As : List Value} (hX : FX l K X cc own F Lo MC MS) (hd : decode cc pc = .ok (.invokestatic idx, 3)) (hM : CLb M np) (hl : Cond.methodLink own idx M.1 ∈ lw_tbl) (hi : Cond.static M.1 ∈ lw_tbl) (hnp : As.length = np) (hS0 : S0 = As.reverse ++ S) (hctr : Ctr l K M As h n mc ms Post PX) (hF : M.2.2.2.2.1 + 1 ≤ F) (hLo : 8 + (M.2.2.1 + 11) + M.2.2.2.2.2 ≤ Lo) (hC : kc + mc ≤ MC) (hCs : ks + ms ≤ MS) (hst8 : (S.map fun v => v.category).sum ≤ 8) (kx : ∀ (E : String) (h' : gw_H) (n' : Nat), n ≤ n' → PX E h' n' → GX X pc L E h' n' (kc + mc) (ks + ms)) (kk : ∀ (rv : Option Value) (h' : gw_H) (n' : Nat), n ≤ n' → Post rv h' n' → GW X (pc + 3) L (rv.toList ++ S) h' n' (kc + mc) (ks + ms)) : GW X pc L S0 h n kc ks := by
  obtain ⟨p, l1, e, R, s, m, args, below, meth, c, A, Q, K1, ad0, n0⟩ := X
  obtain ⟨hx, hb, hown, hts, hK, hA, hsp, hz, rfl, rfl, rfl, hst, hlk⟩ := hX
  intro ad H locs ls hR hS ha hn hL hv
  have hokA : ∀ v ∈ As, gw_ok n v := fun v hvv => hv v (by rw [hS0]; exact List.mem_append_left _ (List.mem_reverse.mpr hvv))
  have hokS : ∀ v ∈ S, gw_ok n v := fun v hvv => hv v (by rw [hS0]; exact List.mem_append_right _ hvv)
  have hpre := gw_pre hR hS hA hK hsp hz hokA
  have hstk : S0.map (gw_V ad) = (As.map (gw_V ad)).reverse ++ S.map (gw_V ad) := by rw [hS0, List.map_append, List.map_reverse]
  refine gw_run (L := L) (S := S) (vx_runS (As := As.map (gw_V ad)) ⟨hx, hb, rfl, hown, vx_n⟩ (hctr ad H.size) ⟨gw_cb hts hM (hts _ hl rfl) hF hLo, hts _ hi rfl⟩ ⟨gw_P.blind, hpre⟩ rfl (by rw [List.length_map]; exact hnp) hL.1 hstk (by show 2 * 0 + ((S.map (gw_V ad)).map fun v => v.category).sum ≤ 8; rw [gw_cats]; omega) hd ⟨hC, hCs⟩) hR hS hA ha hn hL hokS kk kx
theorem g_callI {l : Launch} {K : gw_K} {X : gw_X} {cc : ByteArray} {own : String} {F Lo MC MS pc : Nat} {L : List (Option Value)} {S S0 : List Value} {h : gw_H} {n kc ks : Nat} {M : gw_M} {idx np mc ms : Nat} {Post : Option Value → gw_H → Nat → Prop} {PX : String → gw_H → Nat → Prop} {As : List Value} {b : Nat} (hX : FX l K X cc own F Lo MC MS) (hd : decode cc pc = .ok (.invokespecial idx, 3)) (hM : CLb M np) (hl : Cond.methodLink own idx M.1 ∈ lw_tbl) (hi : Cond.instanceMethod M.1 ∈ lw_tbl) (hret : M.2.2.2.1 = none) (hnm : M.1.name = "<init>") (hnp : As.length = np) (hS0 : S0 = As.reverse ++ .ref b :: S) (hctr : Ctr l K M (.ref b :: As) h n mc ms Post PX) (hF : M.2.2.2.2.1 + 1 ≤ F) (hLo : 8 + (M.2.2.1 + 11) + M.2.2.2.2.2 ≤ Lo) (hC : kc + mc ≤ MC) (hCs : ks + ms ≤ MS) (hst8 : (S.map fun v => v.category).sum ≤ 8) (kx : ∀ (E : String) (h' : gw_H) (n' : Nat), n ≤ n' → PX E h' n' → GX X pc L E h' n' (kc + mc) (ks + ms)) (kk : ∀ (rv : Option Value) (h' : gw_H) (n' : Nat), n ≤ n' → Post rv h' n' → GW X (pc + 3) L (rv.toList ++ S) h' n' (kc + mc) (ks + ms)) : GW X pc L S0 h n kc ks := by
  obtain ⟨p, l1, e, R, s, m, args, below, meth, c, A, Q, K1, ad0, n0⟩ := X
  obtain ⟨hx, hb, hown, hts, hK, hA, hsp, hz, rfl, rfl, rfl, hst, hlk⟩ := hX
  intro ad H locs ls hR hS ha hn hL hv
  have hbn : b < n := hv _ (by rw [hS0]; exact List.mem_append_right _ List.mem_cons_self) b rfl
  have hokA : ∀ v ∈ (.ref b :: As), gw_ok n v := gw_cs (gw_ref hbn) fun v hvv => hv v (by rw [hS0]; exact List.mem_append_left _ (List.mem_reverse.mpr hvv))
  have hokS : ∀ v ∈ S, gw_ok n v := fun v hvv => hv v (by rw [hS0]; exact List.mem_append_right _ (List.mem_cons_of_mem _ hvv))
  have hpre := gw_pre hR hS hA hK hsp hz hokA
  have hstk : S0.map (gw_V ad) = (As.map (gw_V ad)).reverse ++ .ref (ad b) :: S.map (gw_V ad) := by rw [hS0, List.map_append, List.map_reverse]; rfl
  obtain ⟨y, bytes, maxL, ret, fr, lo⟩ := M
  cases hret
  refine gw_run (L := L) (S := S) (vx_runI (As := As.map (gw_V ad)) ⟨hx, hb, rfl, hown, vx_n⟩ (hctr ad H.size) ⟨gw_cb hts hM (hts _ hl rfl) hF hLo, hnm, hts _ hi rfl⟩ ⟨gw_P.blind, hpre⟩ rfl (by rw [List.length_map]; exact hnp) hL.1 hstk (by show 2 * 0 + ((S.map (gw_V ad)).map fun v => v.category).sum ≤ 8; rw [gw_cats]; omega) hd ⟨hC, hCs⟩) hR hS hA ha hn hL hokS kk kx
theorem gw_cn {R : Room} {s : State} {args : Array Value} {own host : String} {idx : Nat} {M : gw_M} {np mc ms : Nat} (hts : ∀ w ∈ lw_tbl, goodWord w = true → w.before args s = true) (hM : CLb M np) (hl : (Cond.methodLinkNest own idx M.1 host).before args s = true) (hF : M.2.2.2.2.1 + 1 ≤ R.frames) (hLo : 8 + (M.2.2.1 + 11) + M.2.2.2.2.2 ≤ R.locals) :
    va_CN R s args own idx M.1 host M.2.1 M.2.2.1 M.2.2.2.1 (gw_w M) { frames := M.2.2.2.2.1, cells := mc, slots := ms, locals := M.2.2.2.2.2 } mc ms np := by
  obtain ⟨h1, h2, h3, h4⟩ := hM
  refine ⟨⟨rfl, rfl, hF, hLo, gw_good hts h1, List.mem_cons_self⟩, hts _ h1 rfl, hts _ h2 rfl, h3, fun sig hs => ?_, hl⟩
  rw [hs] at h4
  exact (Option.some.inj h4).symm
theorem g_callVN {l : Launch} {K : gw_K} {X : gw_X} {cc : ByteArray} {own : String} {F Lo MC MS pc : Nat} {L : List (Option Value)} {S S0 : List Value} {h : gw_H} {n kc ks : Nat} {M : gw_M} {idx np mc ms : Nat} {Post : Option Value → gw_H → Nat → Prop} {PX : String → gw_H → Nat → Prop} {As : List Value} {b ci : Nat} {fs : List Value} {host : String} (hX : FX l K X cc own F Lo MC MS) (hd : decode cc pc = .ok (.invokevirtual idx, 3)) (hM : CLb M np) (hl : Cond.methodLinkNest own idx M.1 host ∈ lw_tbl) (hi : Cond.instanceMethod M.1 ∈ lw_tbl) (hsel : Cond.selects M.1.cls M.1 M.1 ∈ lw_tbl) (hnp : As.length = np) (hS0 : S0 = As.reverse ++ .ref b :: S) (ho : h b = oB ci fs) (hci : ∃ r, vwCl[ci]? = some r ∧ r.1 = M.1.cls) (hctr : Ctr l K M (.ref b :: As) h n mc ms Post PX) (hF : M.2.2.2.2.1 + 1 ≤ F) (hLo : 8 + (M.2.2.1 + 11) + M.2.2.2.2.2 ≤ Lo) (hC : kc + mc ≤ MC) (hCs : ks + ms ≤ MS) (hst8 : (S.map fun v => v.category).sum ≤ 8) (kx : ∀ (E : String) (h' : gw_H) (n' : Nat), n ≤ n' → PX E h' n' → GX X pc L E h' n' (kc + mc) (ks + ms)) (kk : ∀ (rv : Option Value) (h' : gw_H) (n' : Nat), n ≤ n' → Post rv h' n' → GW X (pc + 3) L (rv.toList ++ S) h' n' (kc + mc) (ks + ms)) : GW X pc L S0 h n kc ks := by
  obtain ⟨p, l1, e, R, s, m, args, below, meth, c, A, Q, K1, ad0, n0⟩ := X
  obtain ⟨hx, hb, hown, hts, hK, hA, hsp, hz, rfl, rfl, rfl, hst, hlk⟩ := hX
  intro ad H locs ls hR hS ha hn hL hv
  have hbn : b < n := hv _ (by rw [hS0]; exact List.mem_append_right _ List.mem_cons_self) b rfl
  have hokA : ∀ v ∈ (.ref b :: As), gw_ok n v := gw_cs (gw_ref hbn) fun v hvv => hv v (by rw [hS0]; exact List.mem_append_left _ (List.mem_reverse.mpr hvv))
  have hokS : ∀ v ∈ S, gw_ok n v := fun v hvv => hv v (by rw [hS0]; exact List.mem_append_right _ (List.mem_cons_of_mem _ hvv))
  obtain ⟨r, hr1, hr2⟩ := hci
  have hrecv := va_recv hK hR.1 hr1 (gw_at (K := K1) (ad := ad) hbn ho)
  rw [hr2] at hrecv
  have hpre := gw_pre hR hS hA hK hsp hz hokA
  have hstk : S0.map (gw_V ad) = (As.map (gw_V ad)).reverse ++ .ref (ad b) :: S.map (gw_V ad) := by rw [hS0, List.map_append, List.map_reverse]; rfl
  refine gw_run (L := L) (S := S) (vx_runVN (As := As.map (gw_V ad)) ⟨hx, hb, rfl, hown, vx_n⟩ (hctr ad H.size) ⟨gw_cn hts hM ((hsp.1 _ hl rfl).use rfl) hF hLo, hts _ hi rfl, hts _ hsel rfl⟩ ⟨gw_P.blind, hrecv, hpre⟩ rfl (by rw [List.length_map]; exact hnp) hL.1 hstk (by show 2 * 0 + ((S.map (gw_V ad)).map fun v => v.category).sum ≤ 8; rw [gw_cats]; omega) hd ⟨hC, hCs⟩) hR hS hA ha hn hL hokS kk kx
theorem g_callIN {l : Launch} {K : gw_K} {X : gw_X} {cc : ByteArray} {own : String} {F Lo MC MS pc : Nat} {L : List (Option Value)} {S S0 : List Value} {h : gw_H} {n kc ks : Nat} {M : gw_M} {idx np mc ms : Nat} {Post : Option Value → gw_H → Nat → Prop} {PX : String → gw_H → Nat → Prop} {As : List Value} {b : Nat} (hX : FX l K X cc own F Lo MC MS) (hd : decode cc pc = .ok (.invokespecial idx, 3)) (hM : CLb M np) (host : String) (hl : Cond.methodLinkNest own idx M.1 host ∈ lw_tbl) (hi : Cond.instanceMethod M.1 ∈ lw_tbl) (hret : M.2.2.2.1 = none) (hnm : M.1.name = "<init>") (hnp : As.length = np) (hS0 : S0 = As.reverse ++ .ref b :: S) (hctr : Ctr l K M (.ref b :: As) h n mc ms Post PX) (hF : M.2.2.2.2.1 + 1 ≤ F) (hLo : 8 + (M.2.2.1 + 11) + M.2.2.2.2.2 ≤ Lo) (hC : kc + mc ≤ MC) (hCs : ks + ms ≤ MS) (hst8 : (S.map fun v => v.category).sum ≤ 8) (kx : ∀ (E : String) (h' : gw_H) (n' : Nat), n ≤ n' → PX E h' n' → GX X pc L E h' n' (kc + mc) (ks + ms)) (kk : ∀ (rv : Option Value) (h' : gw_H) (n' : Nat), n ≤ n' → Post rv h' n' → GW X (pc + 3) L (rv.toList ++ S) h' n' (kc + mc) (ks + ms)) : GW X pc L S0 h n kc ks := by
  obtain ⟨p, l1, e, R, s, m, args, below, meth, c, A, Q, K1, ad0, n0⟩ := X
  obtain ⟨hx, hb, hown, hts, hK, hA, hsp, hz, rfl, rfl, rfl, hst, hlk⟩ := hX
  intro ad H locs ls hR hS ha hn hL hv
  have hbn : b < n := hv _ (by rw [hS0]; exact List.mem_append_right _ List.mem_cons_self) b rfl
  have hokA : ∀ v ∈ (.ref b :: As), gw_ok n v := gw_cs (gw_ref hbn) fun v hvv => hv v (by rw [hS0]; exact List.mem_append_left _ (List.mem_reverse.mpr hvv))
  have hokS : ∀ v ∈ S, gw_ok n v := fun v hvv => hv v (by rw [hS0]; exact List.mem_append_right _ (List.mem_cons_of_mem _ hvv))
  have hpre := gw_pre hR hS hA hK hsp hz hokA
  have hstk : S0.map (gw_V ad) = (As.map (gw_V ad)).reverse ++ .ref (ad b) :: S.map (gw_V ad) := by rw [hS0, List.map_append, List.map_reverse]; rfl
  obtain ⟨y, bytes, maxL, ret, fr, lo⟩ := M
  cases hret
  refine gw_run (L := L) (S := S) (vx_runIN (As := As.map (gw_V ad)) ⟨hx, hb, rfl, hown, vx_n⟩ (hctr ad H.size) ⟨gw_cn hts hM ((hsp.1 _ hl rfl).use rfl) hF hLo, hnm, hts _ hi rfl⟩ ⟨gw_P.blind, hpre⟩ rfl (by rw [List.length_map]; exact hnp) hL.1 hstk (by show 2 * 0 + ((S.map (gw_V ad)).map fun v => v.category).sum ≤ 8; rw [gw_cats]; omega) hd ⟨hC, hCs⟩) hR hS hA ha hn hL hokS kk kx
/-- the end of a frame -/
theorem gw_end {n' n : Nat} {h h' : gw_H} {Post : Option Value → gw_H → Nat → Prop} {s : State} {args : Array Value} {A : Nat → Prop} {K1 : gw_K} {ad0 : Nat → Nat} {n0 : Nat} {ad : Nat → Nat} {H : Heap} {locs : List Loc} {rv : Option Value}
    (hA0 : A = gw_fr ad0 n0 s.heap.size) (hR : gw_R K1 ad n h A H) (hS : va_S A s.heap H locs) (ha : ∀ k, k < n0 → ad k = ad0 k) (hn : n0 ≤ n') (hn' : n' ≤ n) (hh : ∀ k, k < n' → h k = h' k) (hok : ∀ k, k < n' → gw_oke n' (h' k)) (hrv : ∀ v, rv = some v → gw_ok n' v) (hp : Post rv h' n') (t : State) (ht : t.heap = H) :
    gw_Q K1 ad0 n0 s.heap.size Post args s (.returned (rv.map (gw_V ad))) t := by
  subst hA0
  refine ⟨⟨rv, h', n', ad, rfl, hp, ha, hn, ?_, hrv⟩, ?_⟩
  · rw [ht]
    have e1 : ∀ (k : Nat) (q : Nat × va_E), (gw_ws K1 ad n' h')[k]? = some q → (gw_ws K1 ad n h)[k]? = some q := fun k q hq => by
      obtain ⟨hk, rfl⟩ := gw_ws_lt hq
      rw [gw_ws_at (by omega), hh k hk]
    refine ⟨fun k q hq => hR.1 k q (e1 k q hq), ⟨fun i j p q hi hj => hR.2.1.1 i j p q (e1 i p hi) (e1 j q hj), fun k q hq => hR.2.1.2 k q (e1 k q hq)⟩, hok⟩
  · rw [va_F, ht]
    exact ⟨hS.1, fun q h1 h2 => hS.2.1 q h1 h2⟩
theorem g_ireturn {l : Launch} {K : gw_K} {X : gw_X} {cc : ByteArray} {own nm : String} {F Lo MC MS pc : Nat} {L : List (Option Value)} {h : gw_H} {n kc ks : Nat} {Post : Option Value → gw_H → Nat → Prop} {PX : String → gw_H → Nat → Prop} {v : Int32} (hX : FX l K X cc own F Lo MC MS) (hr : RX X nm (some .int) Post PX) (hd : decode cc pc = .ok (.ireturn, 1)) (hk1 : kc ≤ MC) (hk2 : ks ≤ MS) (hp : Post (some (.int v)) h n) : GW X pc L [.int v] h n kc ks := by
  obtain ⟨p, l1, e, R, s, m, args, below, meth, c, A, Q, K1, ad0, n0⟩ := X
  obtain ⟨hx, hb, hown, hts, hK, hA, hsp, hz, rfl, rfl, rfl, hst, hlk⟩ := hX
  obtain ⟨-, hret, hA0, hQ⟩ := hr
  intro ad H locs ls hR hS ha hn hL hv
  subst hQ
  refine vx_ret (W.widen hk1 hk2 ?_)
  have hfr : ∀ q ∈ locs, gw_fr ad0 n0 s.heap.size q.base := fun q hq => by rw [← hA0]; exact hS.2.2 q hq
  exact W.iret (v := v) hx hb hret (fun t ht hW => gw_end hA0 hR hS ha hn (Nat.le_refl _) (fun _ _ => rfl) hR.2.2 (fun w hw => by cases hw; exact gw_int _ _) hp t ht) hfr hd (hlocks := hlk)
theorem g_lreturn {l : Launch} {K : gw_K} {X : gw_X} {cc : ByteArray} {own nm : String} {F Lo MC MS pc : Nat} {L : List (Option Value)} {h : gw_H} {n kc ks : Nat} {Post : Option Value → gw_H → Nat → Prop} {PX : String → gw_H → Nat → Prop} {v : Int64} (hX : FX l K X cc own F Lo MC MS) (hr : RX X nm (some .long) Post PX) (hd : decode cc pc = .ok (.lreturn, 1)) (hk1 : kc ≤ MC) (hk2 : ks ≤ MS) (hp : Post (some (.long v)) h n) : GW X pc L [.long v] h n kc ks := by
  obtain ⟨p, l1, e, R, s, m, args, below, meth, c, A, Q, K1, ad0, n0⟩ := X
  obtain ⟨hx, hb, hown, hts, hK, hA, hsp, hz, rfl, rfl, rfl, hst, hlk⟩ := hX
  obtain ⟨-, hret, hA0, hQ⟩ := hr
  intro ad H locs ls hR hS ha hn hL hv
  subst hQ
  refine vx_ret (W.widen hk1 hk2 ?_)
  have hfr : ∀ q ∈ locs, gw_fr ad0 n0 s.heap.size q.base := fun q hq => by rw [← hA0]; exact hS.2.2 q hq
  exact W.lret (v := v) hx hb hret (fun t ht hW => gw_end hA0 hR hS ha hn (Nat.le_refl _) (fun _ _ => rfl) hR.2.2 (fun w hw => by cases hw; exact gw_long _ _) hp t ht) hfr hd (hlocks := hlk)
theorem g_dreturn {l : Launch} {K : gw_K} {X : gw_X} {cc : ByteArray} {own nm : String} {F Lo MC MS pc : Nat} {L : List (Option Value)} {h : gw_H} {n kc ks : Nat} {Post : Option Value → gw_H → Nat → Prop} {PX : String → gw_H → Nat → Prop} {v : UInt64} (hX : FX l K X cc own F Lo MC MS) (hr : RX X nm (some .double) Post PX) (hd : decode cc pc = .ok (.dreturn, 1)) (hk1 : kc ≤ MC) (hk2 : ks ≤ MS) (hp : Post (some (.double v)) h n) : GW X pc L [.double v] h n kc ks := by
  obtain ⟨p, l1, e, R, s, m, args, below, meth, c, A, Q, K1, ad0, n0⟩ := X
  obtain ⟨hx, hb, hown, hts, hK, hA, hsp, hz, rfl, rfl, rfl, hst, hlk⟩ := hX
  obtain ⟨-, hret, hA0, hQ⟩ := hr
  intro ad H locs ls hR hS ha hn hL hv
  subst hQ
  refine vx_ret (W.widen hk1 hk2 ?_)
  have hfr : ∀ q ∈ locs, gw_fr ad0 n0 s.heap.size q.base := fun q hq => by rw [← hA0]; exact hS.2.2 q hq
  exact W.dret (v := v) hx hb hret (fun t ht hW => gw_end hA0 hR hS ha hn (Nat.le_refl _) (fun _ _ => rfl) hR.2.2 (fun w hw => by cases hw; exact gw_dbl _ _) hp t ht) hfr hd (hlocks := hlk)
theorem g_zreturn {l : Launch} {K : gw_K} {X : gw_X} {cc : ByteArray} {own nm : String} {F Lo MC MS pc : Nat} {L : List (Option Value)} {h : gw_H} {n kc ks : Nat} {Post : Option Value → gw_H → Nat → Prop} {PX : String → gw_H → Nat → Prop} {v : Int32} {ty : FieldType} (hX : FX l K X cc own F Lo MC MS) (hr : RX X nm (some ty) Post PX) (hnr : narrow ty (.int v) = .int v) (hd : decode cc pc = .ok (.ireturn, 1)) (hk1 : kc ≤ MC) (hk2 : ks ≤ MS) (hp : Post (some (.int v)) h n) : GW X pc L [.int v] h n kc ks := by
  obtain ⟨p, l1, e, R, s, m, args, below, meth, c, A, Q, K1, ad0, n0⟩ := X
  obtain ⟨hx, hb, hown, hts, hK, hA, hsp, hz, rfl, rfl, rfl, hst, hlk⟩ := hX
  obtain ⟨-, hret, hA0, hQ⟩ := hr
  intro ad H locs ls hR hS ha hn hL hv
  subst hQ
  refine vx_ret (W.widen hk1 hk2 ?_)
  have hfr : ∀ q ∈ locs, gw_fr ad0 n0 s.heap.size q.base := fun q hq => by rw [← hA0]; exact hS.2.2 q hq
  exact W.zret (v := v) hx hb hret hnr (fun t ht hW => gw_end hA0 hR hS ha hn (Nat.le_refl _) (fun _ _ => rfl) hR.2.2 (fun w hw => by cases hw; exact gw_int _ _) hp t ht) hfr hd (hlocks := hlk)
theorem g_return {l : Launch} {K : gw_K} {X : gw_X} {cc : ByteArray} {own nm : String} {F Lo MC MS pc : Nat} {L : List (Option Value)} {h : gw_H} {n kc ks : Nat} {Post : Option Value → gw_H → Nat → Prop} {PX : String → gw_H → Nat → Prop} (hX : FX l K X cc own F Lo MC MS) (hr : RX X nm none Post PX) (hd : decode cc pc = .ok (.return_, 1)) (hk1 : kc ≤ MC) (hk2 : ks ≤ MS) (hp : Post none h n) : GW X pc L [] h n kc ks := by
  obtain ⟨p, l1, e, R, s, m, args, below, meth, c, A, Q, K1, ad0, n0⟩ := X
  obtain ⟨hx, hb, hown, hts, hK, hA, hsp, hz, rfl, rfl, rfl, hst, hlk⟩ := hX
  obtain ⟨-, hret, hA0, hQ⟩ := hr
  intro ad H locs ls hR hS ha hn hL hv
  subst hQ
  refine vx_ret (W.widen hk1 hk2 ?_)
  have hfr : ∀ q ∈ locs, gw_fr ad0 n0 s.heap.size q.base := fun q hq => by rw [← hA0]; exact hS.2.2 q hq
  exact W.vret hx hb hret (fun t ht hW => gw_end hA0 hR hS ha hn (Nat.le_refl _) (fun _ _ => rfl) hR.2.2 (fun w hw => by cases hw) (rv := none) hp t ht) hfr hd (hlocks := hlk)
theorem g_ireturnT {l : Launch} {K : gw_K} {X : gw_X} {cc : ByteArray} {own nm : String} {F Lo MC MS pc : Nat} {L : List (Option Value)} {h : gw_H} {n kc ks : Nat} {Post : Option Value → gw_H → Nat → Prop} {PX : String → gw_H → Nat → Prop} {v : Int32} (hX : FX l K X cc own F Lo MC MS) (hr : RX X nm (some .int) Post PX) (hd : decode cc pc = .ok (.ireturn, 1)) (hk1 : kc ≤ MC) (hk2 : ks ≤ MS) (n' : Nat) (h' : gw_H) (hn' : n' ≤ n) (hn0 : X.2.2.2.2.2.2.2.2.2.2.2.2.2.2 ≤ n') (hh : ∀ k, k < n' → h k = h' k) (hok : ∀ k, k < n' → gw_oke n' (h' k)) (hp : Post (some (.int v)) h' n') : GW X pc L [.int v] h n kc ks := by
  obtain ⟨p, l1, e, R, s, m, args, below, meth, c, A, Q, K1, ad0, n0⟩ := X
  obtain ⟨hx, hb, hown, hts, hK, hA, hsp, hz, rfl, rfl, rfl, hst, hlk⟩ := hX
  obtain ⟨-, hret, hA0, hQ⟩ := hr
  intro ad H locs ls hR hS ha hn hL hv
  subst hQ
  refine vx_ret (W.widen hk1 hk2 ?_)
  have hfr : ∀ q ∈ locs, gw_fr ad0 n0 s.heap.size q.base := fun q hq => by rw [← hA0]; exact hS.2.2 q hq
  exact W.iret (v := v) hx hb hret (fun t ht hW => gw_end hA0 hR hS ha hn0 hn' hh hok (fun w hw => by cases hw; exact gw_int _ _) hp t ht) hfr hd (hlocks := hlk)
theorem g_lreturnT {l : Launch} {K : gw_K} {X : gw_X} {cc : ByteArray} {own nm : String} {F Lo MC MS pc : Nat} {L : List (Option Value)} {h : gw_H} {n kc ks : Nat} {Post : Option Value → gw_H → Nat → Prop} {PX : String → gw_H → Nat → Prop} {v : Int64} (hX : FX l K X cc own F Lo MC MS) (hr : RX X nm (some .long) Post PX) (hd : decode cc pc = .ok (.lreturn, 1)) (hk1 : kc ≤ MC) (hk2 : ks ≤ MS) (n' : Nat) (h' : gw_H) (hn' : n' ≤ n) (hn0 : X.2.2.2.2.2.2.2.2.2.2.2.2.2.2 ≤ n') (hh : ∀ k, k < n' → h k = h' k) (hok : ∀ k, k < n' → gw_oke n' (h' k)) (hp : Post (some (.long v)) h' n') : GW X pc L [.long v] h n kc ks := by
  obtain ⟨p, l1, e, R, s, m, args, below, meth, c, A, Q, K1, ad0, n0⟩ := X
  obtain ⟨hx, hb, hown, hts, hK, hA, hsp, hz, rfl, rfl, rfl, hst, hlk⟩ := hX
  obtain ⟨-, hret, hA0, hQ⟩ := hr
  intro ad H locs ls hR hS ha hn hL hv
  subst hQ
  refine vx_ret (W.widen hk1 hk2 ?_)
  have hfr : ∀ q ∈ locs, gw_fr ad0 n0 s.heap.size q.base := fun q hq => by rw [← hA0]; exact hS.2.2 q hq
  exact W.lret (v := v) hx hb hret (fun t ht hW => gw_end hA0 hR hS ha hn0 hn' hh hok (fun w hw => by cases hw; exact gw_long _ _) hp t ht) hfr hd (hlocks := hlk)
theorem g_dreturnT {l : Launch} {K : gw_K} {X : gw_X} {cc : ByteArray} {own nm : String} {F Lo MC MS pc : Nat} {L : List (Option Value)} {h : gw_H} {n kc ks : Nat} {Post : Option Value → gw_H → Nat → Prop} {PX : String → gw_H → Nat → Prop} {v : UInt64} (hX : FX l K X cc own F Lo MC MS) (hr : RX X nm (some .double) Post PX) (hd : decode cc pc = .ok (.dreturn, 1)) (hk1 : kc ≤ MC) (hk2 : ks ≤ MS) (n' : Nat) (h' : gw_H) (hn' : n' ≤ n) (hn0 : X.2.2.2.2.2.2.2.2.2.2.2.2.2.2 ≤ n') (hh : ∀ k, k < n' → h k = h' k) (hok : ∀ k, k < n' → gw_oke n' (h' k)) (hp : Post (some (.double v)) h' n') : GW X pc L [.double v] h n kc ks := by
  obtain ⟨p, l1, e, R, s, m, args, below, meth, c, A, Q, K1, ad0, n0⟩ := X
  obtain ⟨hx, hb, hown, hts, hK, hA, hsp, hz, rfl, rfl, rfl, hst, hlk⟩ := hX
  obtain ⟨-, hret, hA0, hQ⟩ := hr
  intro ad H locs ls hR hS ha hn hL hv
  subst hQ
  refine vx_ret (W.widen hk1 hk2 ?_)
  have hfr : ∀ q ∈ locs, gw_fr ad0 n0 s.heap.size q.base := fun q hq => by rw [← hA0]; exact hS.2.2 q hq
  exact W.dret (v := v) hx hb hret (fun t ht hW => gw_end hA0 hR hS ha hn0 hn' hh hok (fun w hw => by cases hw; exact gw_dbl _ _) hp t ht) hfr hd (hlocks := hlk)
theorem g_zreturnT {l : Launch} {K : gw_K} {X : gw_X} {cc : ByteArray} {own nm : String} {F Lo MC MS pc : Nat} {L : List (Option Value)} {h : gw_H} {n kc ks : Nat} {Post : Option Value → gw_H → Nat → Prop} {PX : String → gw_H → Nat → Prop} {v : Int32} {ty : FieldType} (hX : FX l K X cc own F Lo MC MS) (hr : RX X nm (some ty) Post PX) (hnr : narrow ty (.int v) = .int v) (hd : decode cc pc = .ok (.ireturn, 1)) (hk1 : kc ≤ MC) (hk2 : ks ≤ MS) (n' : Nat) (h' : gw_H) (hn' : n' ≤ n) (hn0 : X.2.2.2.2.2.2.2.2.2.2.2.2.2.2 ≤ n') (hh : ∀ k, k < n' → h k = h' k) (hok : ∀ k, k < n' → gw_oke n' (h' k)) (hp : Post (some (.int v)) h' n') : GW X pc L [.int v] h n kc ks := by
  obtain ⟨p, l1, e, R, s, m, args, below, meth, c, A, Q, K1, ad0, n0⟩ := X
  obtain ⟨hx, hb, hown, hts, hK, hA, hsp, hz, rfl, rfl, rfl, hst, hlk⟩ := hX
  obtain ⟨-, hret, hA0, hQ⟩ := hr
  intro ad H locs ls hR hS ha hn hL hv
  subst hQ
  refine vx_ret (W.widen hk1 hk2 ?_)
  have hfr : ∀ q ∈ locs, gw_fr ad0 n0 s.heap.size q.base := fun q hq => by rw [← hA0]; exact hS.2.2 q hq
  exact W.zret (v := v) hx hb hret hnr (fun t ht hW => gw_end hA0 hR hS ha hn0 hn' hh hok (fun w hw => by cases hw; exact gw_int _ _) hp t ht) hfr hd (hlocks := hlk)
theorem g_returnT {l : Launch} {K : gw_K} {X : gw_X} {cc : ByteArray} {own nm : String} {F Lo MC MS pc : Nat} {L : List (Option Value)} {h : gw_H} {n kc ks : Nat} {Post : Option Value → gw_H → Nat → Prop} {PX : String → gw_H → Nat → Prop} (hX : FX l K X cc own F Lo MC MS) (hr : RX X nm none Post PX) (hd : decode cc pc = .ok (.return_, 1)) (hk1 : kc ≤ MC) (hk2 : ks ≤ MS) (n' : Nat) (h' : gw_H) (hn' : n' ≤ n) (hn0 : X.2.2.2.2.2.2.2.2.2.2.2.2.2.2 ≤ n') (hh : ∀ k, k < n' → h k = h' k) (hok : ∀ k, k < n' → gw_oke n' (h' k)) (hp : Post none h' n') : GW X pc L [] h n kc ks := by
  obtain ⟨p, l1, e, R, s, m, args, below, meth, c, A, Q, K1, ad0, n0⟩ := X
  obtain ⟨hx, hb, hown, hts, hK, hA, hsp, hz, rfl, rfl, rfl, hst, hlk⟩ := hX
  obtain ⟨-, hret, hA0, hQ⟩ := hr
  intro ad H locs ls hR hS ha hn hL hv
  subst hQ
  refine vx_ret (W.widen hk1 hk2 ?_)
  have hfr : ∀ q ∈ locs, gw_fr ad0 n0 s.heap.size q.base := fun q hq => by rw [← hA0]; exact hS.2.2 q hq
  exact W.vret hx hb hret (fun t ht hW => gw_end hA0 hR hS ha hn0 hn' hh hok (fun w hw => by cases hw) (rv := none) hp t ht) hfr hd (hlocks := hlk)
theorem g_areturn {l : Launch} {K : gw_K} {X : gw_X} {cc : ByteArray} {own nm : String} {F Lo MC MS pc : Nat} {L : List (Option Value)} {h : gw_H} {n kc ks : Nat} {Post : Option Value → gw_H → Nat → Prop} {PX : String → gw_H → Nat → Prop} {v : Nat} {rt : FieldType} (hX : FX l K X cc own F Lo MC MS) (hr : RX X nm (some rt) Post PX) (hrt : (∃ n, rt = .object n) ∨ ∃ t, rt = .array t) (hd : decode cc pc = .ok (.areturn, 1)) (hk1 : kc ≤ MC) (hk2 : ks ≤ MS) (hp : Post (some (.ref v)) h n) : GW X pc L [.ref v] h n kc ks := by
  obtain ⟨p, l1, e, R, s, m, args, below, meth, c, A, Q, K1, ad0, n0⟩ := X
  obtain ⟨hx, hb, hown, hts, hK, hA, hsp, hz, rfl, rfl, rfl, hst, hlk⟩ := hX
  obtain ⟨-, hret, hA0, hQ⟩ := hr
  intro ad H locs ls hR hS ha hn hL hv
  subst hQ
  refine vx_ret (W.widen hk1 hk2 ?_)
  have hfr : ∀ q ∈ locs, gw_fr ad0 n0 s.heap.size q.base := fun q hq => by rw [← hA0]; exact hS.2.2 q hq
  exact W.aret (v := .ref (ad v)) hx hb hret hrt (Or.inr ⟨_, rfl⟩) (fun t ht hW => gw_end hA0 hR hS ha hn (Nat.le_refl _) (fun _ _ => rfl) hR.2.2 (fun w hw => by cases hw; exact gw_hd hv) hp t ht) hfr hd (hlocks := hlk)
abbrev gw_ns : List String := ["java/lang/RuntimeException", "java/lang/Exception"]
def TS (own : String) (ik is ic : Nat) (cls text : String) : Prop := own = RX3 ∧ Bundle.fit cls = true ∧ (is, text) ∈ gw_strs ∧ Cond.classLink own ik cls ∈ lw_tbl ∧ Cond.initialized cls ∈ lw_tbl ∧ (∀ w ∈ vx_atS own ic cls gw_ns, w ∈ lw_tbl ∧ (goodWord w = true ∨ gw_sp w = true)) ∧ ∀ w ∈ Cond.classLink own ik cls :: Cond.initialized cls :: vx_atS own ic cls gw_ns, vx_ot w = true
/-- throw new E("text") out of a method without handlers -/
theorem g_throwS {l : Launch} {K : gw_K} {X : gw_X} {cc : ByteArray} {own nm : String} {F Lo MC MS pc : Nat} {L : List (Option Value)} {S : List Value} {h : gw_H} {n kc ks : Nat} {ret : Option FieldType} {Post : Option Value → gw_H → Nat → Prop} {PX : String → gw_H → Nat → Prop} {ik is ic : Nat} {cls text : String}
    (hX : FX l K X cc own F Lo MC MS) (hr : RX X nm ret Post PX) (htab : ∀ x ∈ X.2.2.2.2.2.2.2.2.2.1.exceptionTable.toList, False) (ht : TS own ik is ic cls text)
    (d0 : decode cc pc = .ok (.new ik, 3)) (d3 : decode cc (pc + 3) = .ok (.dup, 1)) (d4 : decode cc (pc + 4) = .ok (.ldc is, 2)) (d6 : decode cc (pc + 6) = .ok (.invokespecial ic, 3)) (d9 : decode cc (pc + 9) = .ok (.athrow, 1))
    (hF : 6 ≤ F) (hLo : (S.map fun v => v.category).sum + 82 ≤ Lo) (hC : kc + 1 ≤ MC) (hCs : ks + 6 ≤ MS) (hp : PX cls h n) : GW X pc L S h n kc ks := by
  obtain ⟨p, l1, e, R, s, m, args, below, meth, c, A, Q, K1, ad0, n0⟩ := X
  obtain ⟨hx, hb, hown, hts, hK, hA, hsp, hz, rfl, rfl, rfl, hst, hlk⟩ := hX
  obtain ⟨-, hret, hA0, hQ⟩ := hr
  obtain ⟨t1, t2, t3, t4, t5, t6, t7⟩ := ht
  intro ad H locs ls hR hS ha hn hL hv
  subst hQ
  obtain ⟨sa, hsa⟩ := hsp.2.2.1 _ t3
  have hat : ∀ w ∈ vx_atS own ic cls gw_ns, w.before args s = true := fun w hw => by
    obtain ⟨g1, g2⟩ := t6 w hw
    rcases g2 with g2 | g2
    · exact hts w g1 g2
    · exact (hsp.1 w g1 g2).use (gw_sp_on g2)
  subst t1
  refine vx_throwS (names := gw_ns) hx hb hst hown t2 (by decide +kernel) (hts _ t4 rfl) (hts _ t5 rfl) hsa hat t7 hz.1 hz.2 hS hL.1 d0 d3 d4 d6 d9 (fun x hx => (htab x hx).elim) (by show 2 + 3 < F; omega) (by show _ + (13 * (2 + 1) + 43) ≤ Lo; rw [gw_cats]; omega) hC hCs hlk (fun t hvm hsz hq => ?_) (fun z hz => by rw [← hA0]; exact hS.2.2 z hz) hC hCs
  refine ⟨⟨h, n, ad, hp, ha, hn, ?_⟩, ?_⟩
  · rw [← hA0]
    exact ⟨hR.1.kept fun k q hk => hq _ (hR.1 k q hk).lt, hR.2.1, hR.2.2⟩
  · rw [← hA0]
    exact ⟨Nat.le_trans hS.1 hsz, fun q h1 h2 => (hq q (Nat.lt_of_lt_of_le h1 hS.1)).trans (hS.2.1 q h1 h2)⟩
/-- not caught: on to the caller -/
theorem g_out {l : Launch} {K : gw_K} {X : gw_X} {cc : ByteArray} {own nm : String} {F Lo MC MS pc : Nat} {L : List (Option Value)} {E : String} {h : gw_H} {n kc ks : Nat} {ret : Option FieldType} {Post : Option Value → gw_H → Nat → Prop} {PX : String → gw_H → Nat → Prop}
    (hX : FX l K X cc own F Lo MC MS) (hr : RX X nm ret Post PX) (htab : ∀ x ∈ X.2.2.2.2.2.2.2.2.2.1.exceptionTable.toList, False) (hC : kc ≤ MC) (hCs : ks ≤ MS) (hp : PX E h n) : GX X pc L E h n kc ks := by
  obtain ⟨p, l1, e, R, s, m, args, below, meth, c, A, Q, K1, ad0, n0⟩ := X
  obtain ⟨hx, hb, hown, hts, hK, hA, hsp, hz, rfl, rfl, rfl, hst, hlk⟩ := hX
  obtain ⟨-, hret, hA0, hQ⟩ := hr
  intro ad H locs ls q ce rest hR hS ha hn hL h1 h2 h3
  subst hQ
  refine vx_out (fun x hx => (htab x hx).elim) hlk h1 h2 h3 (fun t ht hvm => ?_) (fun z hz => by rw [← hA0]; exact hS.2.2 z hz) hC hCs
  refine ⟨⟨h, n, ad, hp, ha, hn, ?_⟩, ?_⟩
  · rw [← hA0, ht]; exact hR
  · rw [← hA0, va_F, ht]; exact ⟨hS.1, hS.2.1⟩
theorem GX.no {X : gw_X} {pc : Nat} {L : List (Option Value)} {n kc ks : Nat} : ∀ (E : String) (h' : gw_H) (n' : Nat), n ≤ n' → (fun (_ : String) (_ : gw_H) (_ : Nat) => False) E h' n' → GX X pc L E h' n' kc ks := fun _ _ _ _ h => h.elim
abbrev PX0 : String → gw_H → Nat → Prop := fun _ _ _ => False
end
section
theorem t1 {w : Cond} (h : w ∈ tables_1_1) : w ∈ lw_tbl := List.mem_append_right _ (List.mem_append_left _ h)
theorem t2 {w : Cond} (h : w ∈ tables_1_2) : w ∈ lw_tbl := List.mem_append_right _ (List.mem_append_right _ (List.mem_append_left _ h))
theorem t3 {w : Cond} (h : w ∈ tables_1_3) : w ∈ lw_tbl := List.mem_append_right _ (List.mem_append_right _ (List.mem_append_right _ (List.mem_append_left _ h)))
theorem t4 {w : Cond} (h : w ∈ tables_1_4) : w ∈ lw_tbl := List.mem_append_right _ (List.mem_append_right _ (List.mem_append_right _ (List.mem_append_right _ h)))
set_option maxRecDepth 20000 in
theorem i_X0 : ∀ w ∈ u_ws RX0 TX0 7, w ∈ lw_tbl.filter goodWord := by
  have h1 : ∀ w ∈ u_ws RX0 TX0 7, w ∈ lw_tbl ∧ goodWord w = true := by decide +kernel
  exact fun w hw => List.mem_filter.mpr (h1 w hw)
set_option maxRecDepth 20000 in
theorem i_X1 : ∀ w ∈ u_ws RX1 TX1 6, w ∈ lw_tbl.filter goodWord := by
  have h1 : ∀ w ∈ u_ws RX1 TX1 6, w ∈ lw_tbl ∧ goodWord w = true := by decide +kernel
  exact fun w hw => List.mem_filter.mpr (h1 w hw)
set_option maxRecDepth 20000 in
theorem i_X2 : ∀ w ∈ u_ws RX2 TX2 10, w ∈ lw_tbl.filter goodWord := by
  have h1 : ∀ w ∈ u_ws RX2 TX2 10, w ∈ lw_tbl ∧ goodWord w = true := by decide +kernel
  exact fun w hw => List.mem_filter.mpr (h1 w hw)
set_option maxRecDepth 20000 in
theorem i_X3 : ∀ w ∈ u_ws RX3 TX3 7, w ∈ lw_tbl.filter goodWord := by
  have h1 : ∀ w ∈ u_ws RX3 TX3 7, w ∈ lw_tbl ∧ goodWord w = true := by decide +kernel
  exact fun w hw => List.mem_filter.mpr (h1 w hw)
set_option maxRecDepth 20000 in
theorem i_X4 : ∀ w ∈ u_ws RX4 TX4 6, w ∈ lw_tbl.filter goodWord := by
  have h1 : ∀ w ∈ u_ws RX4 TX4 6, w ∈ lw_tbl ∧ goodWord w = true := by decide +kernel
  exact fun w hw => List.mem_filter.mpr (h1 w hw)
set_option maxRecDepth 20000 in
theorem i_X5 : ∀ w ∈ u_ws RX5 TX5 18, w ∈ lw_tbl.filter goodWord := by
  have h1 : ∀ w ∈ u_ws RX5 TX5 18, w ∈ lw_tbl ∧ goodWord w = true := by decide +kernel
  exact fun w hw => List.mem_filter.mpr (h1 w hw)
set_option maxRecDepth 20000 in
theorem ml_X3_3 : Cond.methodLink RX3 3 Lib.objectInit ∈ lw_tbl := t1 (List.mem_of_getElem? (i := 21) rfl)
set_option maxRecDepth 20000 in
theorem nl_X3_9 : NL RX3 9 2 10 [.null, .null, .null, .null, .null, .null, .null, .null, .int 0, .int 0] := ⟨RX2, TX2, tyX2, rfl, i_X2, tyX2_ok, (fun j hj => by rcases (show j = 0 ∨ j = 1 ∨ j = 2 ∨ j = 3 ∨ j = 4 ∨ j = 5 ∨ j = 6 ∨ j = 7 ∨ j = 8 ∨ j = 9 by omega) with rfl | rfl | rfl | rfl | rfl | rfl | rfl | rfl | rfl | rfl <;> rfl), rfl, t1 (List.mem_of_getElem? (i := 24) rfl), t1 (List.mem_of_getElem? (i := 25) rfl), t1 (List.mem_of_getElem? (i := 2) rfl)⟩
set_option maxRecDepth 20000 in
theorem ml_X3_11 : Cond.methodLink RX3 11 yX2_init ∈ lw_tbl := t1 (List.mem_of_getElem? (i := 26) rfl)
set_option maxRecDepth 20000 in
theorem fl_X3_12 : FL RX3 12 3 0 (.object "BellRoster$Tower") true := ⟨RX3, TX3, 7, tyX3, rfl, by decide, i_X3, rfl, tyX3_ok, nmX3, rfl, rfl, Or.inl (t1 (List.mem_of_getElem? (i := 126) rfl))⟩
set_option maxRecDepth 20000 in
theorem fo_X3_12 : FLo RX3 12 3 0 (.object "BellRoster$Tower") := ⟨RX3, TX3, 7, tyX3, rfl, by decide, i_X3, rfl, tyX3_ok, nmX3, rfl, rfl, t1 (List.mem_of_getElem? (i := 126) rfl), rfl⟩
set_option maxRecDepth 20000 in
theorem fl_X3_16 : FL RX3 16 3 1 (.object "BellRoster$Tower") true := ⟨RX3, TX3, 7, tyX3, rfl, by decide, i_X3, rfl, tyX3_ok, nmX3, rfl, rfl, Or.inl (t1 (List.mem_of_getElem? (i := 127) rfl))⟩
set_option maxRecDepth 20000 in
theorem fo_X3_16 : FLo RX3 16 3 1 (.object "BellRoster$Tower") := ⟨RX3, TX3, 7, tyX3, rfl, by decide, i_X3, rfl, tyX3_ok, nmX3, rfl, rfl, t1 (List.mem_of_getElem? (i := 127) rfl), rfl⟩
set_option maxRecDepth 20000 in
theorem nl_X3_19 : NL RX3 19 1 6 [.null, .null, .null, .null, .int 0, .int 0] := ⟨RX1, TX1, tyX1, rfl, i_X1, tyX1_ok, (fun j hj => by rcases (show j = 0 ∨ j = 1 ∨ j = 2 ∨ j = 3 ∨ j = 4 ∨ j = 5 by omega) with rfl | rfl | rfl | rfl | rfl | rfl <;> rfl), rfl, t1 (List.mem_of_getElem? (i := 67) rfl), t1 (List.mem_of_getElem? (i := 68) rfl), t1 (List.mem_of_getElem? (i := 3) rfl)⟩
set_option maxRecDepth 20000 in
theorem mn_X3_21 : Cond.methodLinkNest RX3 21 yX1_init "BellRoster" ∈ lw_tbl := t1 (List.mem_of_getElem? (i := 69) rfl)
set_option maxRecDepth 20000 in
theorem fl_X3_22 : FL RX3 22 3 2 (.object "BellRoster$Touch") true := ⟨RX3, TX3, 7, tyX3, rfl, by decide, i_X3, rfl, tyX3_ok, nmX3, rfl, rfl, Or.inl (t1 (List.mem_of_getElem? (i := 128) rfl))⟩
set_option maxRecDepth 20000 in
theorem fo_X3_22 : FLo RX3 22 3 2 (.object "BellRoster$Touch") := ⟨RX3, TX3, 7, tyX3, rfl, by decide, i_X3, rfl, tyX3_ok, nmX3, rfl, rfl, t1 (List.mem_of_getElem? (i := 128) rfl), rfl⟩
set_option maxRecDepth 20000 in
theorem kl_X3_26 : Cond.classLink RX3 26 RX0 ∈ lw_tbl := t1 (List.mem_of_getElem? (i := 93) rfl)
set_option maxRecDepth 20000 in
theorem fl_X3_28 : FL RX3 28 3 3 (.array (.object "BellRoster$ChangeList")) true := ⟨RX3, TX3, 7, tyX3, rfl, by decide, i_X3, rfl, tyX3_ok, nmX3, rfl, rfl, Or.inl (t1 (List.mem_of_getElem? (i := 129) rfl))⟩
set_option maxRecDepth 20000 in
theorem fo_X3_28 : FLo RX3 28 3 3 (.array (.object "BellRoster$ChangeList")) := ⟨RX3, TX3, 7, tyX3, rfl, by decide, i_X3, rfl, tyX3_ok, nmX3, rfl, rfl, t1 (List.mem_of_getElem? (i := 129) rfl), rfl⟩
set_option maxRecDepth 20000 in
theorem nl_X3_26 : NL RX3 26 0 7 [.null, .null, .int 0, .int 0, .int 0, .int 0, .int 0] := ⟨RX0, TX0, tyX0, rfl, i_X0, tyX0_ok, (fun j hj => by rcases (show j = 0 ∨ j = 1 ∨ j = 2 ∨ j = 3 ∨ j = 4 ∨ j = 5 ∨ j = 6 by omega) with rfl | rfl | rfl | rfl | rfl | rfl | rfl <;> rfl), rfl, t1 (List.mem_of_getElem? (i := 93) rfl), t1 (List.mem_of_getElem? (i := 95) rfl), t1 (List.mem_of_getElem? (i := 4) rfl)⟩
set_option maxRecDepth 20000 in
theorem mn_X3_32 : Cond.methodLinkNest RX3 32 yX0_init "BellRoster" ∈ lw_tbl := t1 (List.mem_of_getElem? (i := 96) rfl)
set_option maxRecDepth 20000 in
theorem ml_X3_33 : Cond.methodLink RX3 33 yX3_requireIndex ∈ lw_tbl := t1 (List.mem_of_getElem? (i := 182) rfl)
set_option maxRecDepth 20000 in
theorem ml_X3_37 : Cond.methodLink RX3 37 yX3_requireWithin ∈ lw_tbl := t2 (List.mem_of_getElem? (i := 116) rfl)
set_option maxRecDepth 20000 in
theorem fl_X3_41 : FL RX3 41 2 8 .int false := ⟨RX2, TX2, 10, tyX2, rfl, by decide, i_X2, rfl, tyX2_ok, nmX2, rfl, rfl, Or.inr ⟨"BellRoster", t1 (List.mem_of_getElem? (i := 41) rfl)⟩⟩
set_option maxRecDepth 20000 in
theorem ml_X3_52 : Cond.methodLink RX3 52 yX2_enrol ∈ lw_tbl := t2 (List.mem_of_getElem? (i := 151) rfl)
set_option maxRecDepth 20000 in
theorem ml_X3_56 : Cond.methodLink RX3 56 yX2_changeVotes ∈ lw_tbl := t2 (List.mem_of_getElem? (i := 162) rfl)
set_option maxRecDepth 20000 in
theorem fl_X3_59 : FL RX3 59 2 2 (.array .int) true := ⟨RX2, TX2, 10, tyX2, rfl, by decide, i_X2, rfl, tyX2_ok, nmX2, rfl, rfl, Or.inr ⟨"BellRoster", t1 (List.mem_of_getElem? (i := 33) rfl)⟩⟩
set_option maxRecDepth 20000 in
theorem ml_X3_63 : Cond.methodLink RX3 63 yX3_requireSeat ∈ lw_tbl := t2 (List.mem_of_getElem? (i := 53) rfl)
set_option maxRecDepth 20000 in
theorem ml_X3_66 : Cond.methodLink RX3 66 yX3_seatNumber ∈ lw_tbl := t2 (List.mem_of_getElem? (i := 56) rfl)
set_option maxRecDepth 20000 in
theorem fl_X3_70 : FL RX3 70 2 7 (.array .int) true := ⟨RX2, TX2, 10, tyX2, rfl, by decide, i_X2, rfl, tyX2_ok, nmX2, rfl, rfl, Or.inr ⟨"BellRoster", t1 (List.mem_of_getElem? (i := 40) rfl)⟩⟩
set_option maxRecDepth 20000 in
theorem ml_X3_73 : Cond.methodLink RX3 73 yX2_electBand ∈ lw_tbl := t2 (List.mem_of_getElem? (i := 70) rfl)
set_option maxRecDepth 20000 in
theorem ml_X3_77 : Cond.methodLink RX3 77 yX2_ringersIn ∈ lw_tbl := t2 (List.mem_of_getElem? (i := 186) rfl)
set_option maxRecDepth 20000 in
theorem ml_X3_81 : Cond.methodLink RX3 81 yX2_ringerAt ∈ lw_tbl := t2 (List.mem_of_getElem? (i := 59) rfl)
set_option maxRecDepth 20000 in
theorem ml_X3_86 : Cond.methodLink RX3 86 yX2_ringsBell ∈ lw_tbl := t2 (List.mem_of_getElem? (i := 195) rfl)
set_option maxRecDepth 20000 in
theorem fl_X3_92 : FL RX3 92 2 6 (.array .int) true := ⟨RX2, TX2, 10, tyX2, rfl, by decide, i_X2, rfl, tyX2_ok, nmX2, rfl, rfl, Or.inr ⟨"BellRoster", t1 (List.mem_of_getElem? (i := 38) rfl)⟩⟩
set_option maxRecDepth 20000 in
theorem ml_X3_97 : Cond.methodLink RX3 97 yX2_bandOf ∈ lw_tbl := t2 (List.mem_of_getElem? (i := 205) rfl)
set_option maxRecDepth 20000 in
theorem ml_X3_100 : Cond.methodLink RX3 100 yX2_bellOf ∈ lw_tbl := t2 (List.mem_of_getElem? (i := 206) rfl)
set_option maxRecDepth 20000 in
theorem ml_X3_103 : Cond.methodLink RX3 103 yX2_tellOfRinger ∈ lw_tbl := t2 (List.mem_of_getElem? (i := 33) rfl)
set_option maxRecDepth 20000 in
theorem ml_X3_106 : Cond.methodLink RX3 106 yX2_copyFrom ∈ lw_tbl := t2 (List.mem_of_getElem? (i := 63) rfl)
set_option maxRecDepth 20000 in
theorem fl_X3_110 : FL RX3 110 3 4 .int false := ⟨RX3, TX3, 7, tyX3, rfl, by decide, i_X3, rfl, tyX3_ok, nmX3, rfl, rfl, Or.inl (t1 (List.mem_of_getElem? (i := 130) rfl))⟩
set_option maxRecDepth 20000 in
theorem ml_X3_115 : Cond.methodLink RX3 115 yX3_listNumbered ∈ lw_tbl := t2 (List.mem_of_getElem? (i := 86) rfl)
set_option maxRecDepth 20000 in
theorem fl_X3_124 : FL RX3 124 0 2 .int false := ⟨RX0, TX0, 7, tyX0, rfl, by decide, i_X0, rfl, tyX0_ok, nmX0, rfl, rfl, Or.inr ⟨"BellRoster", t1 (List.mem_of_getElem? (i := 104) rfl)⟩⟩
set_option maxRecDepth 20000 in
theorem ml_X3_129 : Cond.methodLink RX3 129 yX0_append ∈ lw_tbl := t2 (List.mem_of_getElem? (i := 232) rfl)
set_option maxRecDepth 20000 in
theorem ml_X3_132 : Cond.methodLink RX3 132 yX0_measureCourse ∈ lw_tbl := t2 (List.mem_of_getElem? (i := 236) rfl)
set_option maxRecDepth 20000 in
theorem ml_X3_136 : Cond.methodLink RX3 136 yX0_tellOfCourse ∈ lw_tbl := t2 (List.mem_of_getElem? (i := 90) rfl)
set_option maxRecDepth 20000 in
theorem ml_X3_141 : Cond.methodLink RX3 141 yX1_begin ∈ lw_tbl := t3 (List.mem_of_getElem? (i := 59) rfl)
set_option maxRecDepth 20000 in
theorem ml_X3_144 : Cond.methodLink RX3 144 yX0_changeAt ∈ lw_tbl := t2 (List.mem_of_getElem? (i := 98) rfl)
set_option maxRecDepth 20000 in
theorem ml_X3_147 : Cond.methodLink RX3 147 yX1_makeChange ∈ lw_tbl := t3 (List.mem_of_getElem? (i := 60) rfl)
set_option maxRecDepth 20000 in
theorem ml_X3_150 : Cond.methodLink RX3 150 yX1_rowCode ∈ lw_tbl := t3 (List.mem_of_getElem? (i := 61) rfl)
set_option maxRecDepth 20000 in
theorem fl_X3_154 : FL RX3 154 0 1 (.array .int) true := ⟨RX0, TX0, 7, tyX0, rfl, by decide, i_X0, rfl, tyX0_ok, nmX0, rfl, rfl, Or.inr ⟨"BellRoster", t1 (List.mem_of_getElem? (i := 102) rfl)⟩⟩
set_option maxRecDepth 20000 in
theorem ml_X3_157 : Cond.methodLink RX3 157 yX3_canBeRung ∈ lw_tbl := t3 (List.mem_of_getElem? (i := 80) rfl)
set_option maxRecDepth 20000 in
theorem ml_X3_163 : Cond.methodLink RX3 163 yX2_ringTouch ∈ lw_tbl := t3 (List.mem_of_getElem? (i := 89) rfl)
set_option maxRecDepth 20000 in
theorem fl_X3_167 : FL RX3 167 3 5 .int false := ⟨RX3, TX3, 7, tyX3, rfl, by decide, i_X3, rfl, tyX3_ok, nmX3, rfl, rfl, Or.inl (t1 (List.mem_of_getElem? (i := 131) rfl))⟩
set_option maxRecDepth 20000 in
theorem fl_X3_170 : FL RX3 170 3 6 .int false := ⟨RX3, TX3, 7, tyX3, rfl, by decide, i_X3, rfl, tyX3_ok, nmX3, rfl, rfl, Or.inl (t1 (List.mem_of_getElem? (i := 132) rfl))⟩
set_option maxRecDepth 20000 in
theorem ml_X3_173 : Cond.methodLink RX3 173 yX3_votesBrought ∈ lw_tbl := t3 (List.mem_of_getElem? (i := 116) rfl)
set_option maxRecDepth 20000 in
theorem fl_X3_177 : FL RX3 177 0 3 .int false := ⟨RX0, TX0, 7, tyX0, rfl, by decide, i_X0, rfl, tyX0_ok, nmX0, rfl, rfl, Or.inr ⟨"BellRoster", t1 (List.mem_of_getElem? (i := 107) rfl)⟩⟩
set_option maxRecDepth 20000 in
theorem fl_X3_180 : FL RX3 180 2 9 .int false := ⟨RX2, TX2, 10, tyX2, rfl, by decide, i_X2, rfl, tyX2_ok, nmX2, rfl, rfl, Or.inr ⟨"BellRoster", t1 (List.mem_of_getElem? (i := 44) rfl)⟩⟩
set_option maxRecDepth 20000 in
theorem ml_X3_183 : Cond.methodLink RX3 183 yX2_ringersAtBells ∈ lw_tbl := t1 (List.mem_of_getElem? (i := 152) rfl)
set_option maxRecDepth 20000 in
theorem ml_X3_186 : Cond.methodLink RX3 186 yX2_fullBands ∈ lw_tbl := t2 (List.mem_of_getElem? (i := 13) rfl)
set_option maxRecDepth 20000 in
theorem ml_X3_189 : Cond.methodLink RX3 189 yX2_allFaults ∈ lw_tbl := t2 (List.mem_of_getElem? (i := 17) rfl)
set_option maxRecDepth 20000 in
theorem ml_X3_192 : Cond.methodLink RX3 192 yX2_allVotes ∈ lw_tbl := t2 (List.mem_of_getElem? (i := 21) rfl)
set_option maxRecDepth 20000 in
theorem ml_X3_195 : Cond.methodLink RX3 195 yX2_passDays ∈ lw_tbl := t3 (List.mem_of_getElem? (i := 138) rfl)
set_option maxRecDepth 20000 in
theorem ml_X3_198 : Cond.methodLink RX3 198 yX2_seatedUnlike ∈ lw_tbl := t3 (List.mem_of_getElem? (i := 147) rfl)
set_option maxRecDepth 20000 in
theorem ml_X3_202 : Cond.methodLink RX3 202 yX2_skillAtBells ∈ lw_tbl := t1 (List.mem_of_getElem? (i := 168) rfl)
set_option maxRecDepth 20000 in
theorem cl_X3_205 : Cond.constantLong RX3 205 1237 ∈ lw_tbl := t1 (List.mem_of_getElem? (i := 176) rfl)
set_option maxRecDepth 20000 in
theorem cl_X3_207 : Cond.constantLong RX3 207 31 ∈ lw_tbl := t1 (List.mem_of_getElem? (i := 177) rfl)
set_option maxRecDepth 20000 in
theorem ml_X3_209 : Cond.methodLink RX3 209 yX3_count ∈ lw_tbl := t1 (List.mem_of_getElem? (i := 178) rfl)
set_option maxRecDepth 20000 in
theorem ml_X3_212 : Cond.methodLink RX3 212 yX3_digestRingers ∈ lw_tbl := t2 (List.mem_of_getElem? (i := 25) rfl)
set_option maxRecDepth 20000 in
theorem ml_X3_216 : Cond.methodLink RX3 216 yX3_digestBands ∈ lw_tbl := t2 (List.mem_of_getElem? (i := 45) rfl)
set_option maxRecDepth 20000 in
theorem ml_X3_219 : Cond.methodLink RX3 219 yX3_digestMethods ∈ lw_tbl := t2 (List.mem_of_getElem? (i := 78) rfl)
set_option maxRecDepth 20000 in
theorem ml_X3_222 : Cond.methodLink RX3 222 yX3_told ∈ lw_tbl := t2 (List.mem_of_getElem? (i := 29) rfl)
set_option maxRecDepth 20000 in
theorem ml_X3_225 : Cond.methodLink RX3 225 yX3_bell ∈ lw_tbl := t2 (List.mem_of_getElem? (i := 49) rfl)
set_option maxRecDepth 20000 in
theorem ml_X3_228 : Cond.methodLink RX3 228 yX3_about ∈ lw_tbl := t2 (List.mem_of_getElem? (i := 82) rfl)
set_option maxRecDepth 20000 in
theorem ml_X3_231 : Cond.methodLink RX3 231 yX3_dodges ∈ lw_tbl := t2 (List.mem_of_getElem? (i := 102) rfl)
set_option maxRecDepth 20000 in
theorem ml_X3_234 : Cond.methodLink RX3 234 yX2_isFresh ∈ lw_tbl := t3 (List.mem_of_getElem? (i := 84) rfl)
set_option maxRecDepth 20000 in
theorem ml_X5_1 : Cond.methodLink RX5 1 Lib.objectInit ∈ lw_tbl := t3 (List.mem_of_getElem? (i := 163) rfl)
set_option maxRecDepth 20000 in
theorem fl_X5_9 : FL RX5 9 5 2 (.array .int) true := ⟨RX5, TX5, 18, tyX5, rfl, by decide, i_X5, rfl, tyX5_ok, nmX5, rfl, rfl, Or.inl (t3 (List.mem_of_getElem? (i := 197) rfl))⟩
set_option maxRecDepth 20000 in
theorem fo_X5_9 : FLo RX5 9 5 2 (.array .int) := ⟨RX5, TX5, 18, tyX5, rfl, by decide, i_X5, rfl, tyX5_ok, nmX5, rfl, rfl, t3 (List.mem_of_getElem? (i := 197) rfl), rfl⟩
set_option maxRecDepth 20000 in
theorem fl_X5_13 : FL RX5 13 5 3 (.array .int) true := ⟨RX5, TX5, 18, tyX5, rfl, by decide, i_X5, rfl, tyX5_ok, nmX5, rfl, rfl, Or.inl (t3 (List.mem_of_getElem? (i := 199) rfl))⟩
set_option maxRecDepth 20000 in
theorem fo_X5_13 : FLo RX5 13 5 3 (.array .int) := ⟨RX5, TX5, 18, tyX5, rfl, by decide, i_X5, rfl, tyX5_ok, nmX5, rfl, rfl, t3 (List.mem_of_getElem? (i := 199) rfl), rfl⟩
set_option maxRecDepth 20000 in
theorem fl_X5_16 : FL RX5 16 5 4 (.array .int) true := ⟨RX5, TX5, 18, tyX5, rfl, by decide, i_X5, rfl, tyX5_ok, nmX5, rfl, rfl, Or.inl (t3 (List.mem_of_getElem? (i := 201) rfl))⟩
set_option maxRecDepth 20000 in
theorem fo_X5_16 : FLo RX5 16 5 4 (.array .int) := ⟨RX5, TX5, 18, tyX5, rfl, by decide, i_X5, rfl, tyX5_ok, nmX5, rfl, rfl, t3 (List.mem_of_getElem? (i := 201) rfl), rfl⟩
set_option maxRecDepth 20000 in
theorem fl_X5_19 : FL RX5 19 5 6 (.array .int) true := ⟨RX5, TX5, 18, tyX5, rfl, by decide, i_X5, rfl, tyX5_ok, nmX5, rfl, rfl, Or.inl (t3 (List.mem_of_getElem? (i := 204) rfl))⟩
set_option maxRecDepth 20000 in
theorem fo_X5_19 : FLo RX5 19 5 6 (.array .int) := ⟨RX5, TX5, 18, tyX5, rfl, by decide, i_X5, rfl, tyX5_ok, nmX5, rfl, rfl, t3 (List.mem_of_getElem? (i := 204) rfl), rfl⟩
set_option maxRecDepth 20000 in
theorem fl_X5_22 : FL RX5 22 5 7 (.array .int) true := ⟨RX5, TX5, 18, tyX5, rfl, by decide, i_X5, rfl, tyX5_ok, nmX5, rfl, rfl, Or.inl (t3 (List.mem_of_getElem? (i := 206) rfl))⟩
set_option maxRecDepth 20000 in
theorem fo_X5_22 : FLo RX5 22 5 7 (.array .int) := ⟨RX5, TX5, 18, tyX5, rfl, by decide, i_X5, rfl, tyX5_ok, nmX5, rfl, rfl, t3 (List.mem_of_getElem? (i := 206) rfl), rfl⟩
set_option maxRecDepth 20000 in
theorem fl_X5_25 : FL RX5 25 5 10 (.array .int) true := ⟨RX5, TX5, 18, tyX5, rfl, by decide, i_X5, rfl, tyX5_ok, nmX5, rfl, rfl, Or.inl (t3 (List.mem_of_getElem? (i := 209) rfl))⟩
set_option maxRecDepth 20000 in
theorem fo_X5_25 : FLo RX5 25 5 10 (.array .int) := ⟨RX5, TX5, 18, tyX5, rfl, by decide, i_X5, rfl, tyX5_ok, nmX5, rfl, rfl, t3 (List.mem_of_getElem? (i := 209) rfl), rfl⟩
set_option maxRecDepth 20000 in
theorem fl_X5_28 : FL RX5 28 5 11 (.array .int) true := ⟨RX5, TX5, 18, tyX5, rfl, by decide, i_X5, rfl, tyX5_ok, nmX5, rfl, rfl, Or.inl (t3 (List.mem_of_getElem? (i := 211) rfl))⟩
set_option maxRecDepth 20000 in
theorem fo_X5_28 : FLo RX5 28 5 11 (.array .int) := ⟨RX5, TX5, 18, tyX5, rfl, by decide, i_X5, rfl, tyX5_ok, nmX5, rfl, rfl, t3 (List.mem_of_getElem? (i := 211) rfl), rfl⟩
set_option maxRecDepth 20000 in
theorem fl_X5_31 : FL RX5 31 5 13 (.array .int) true := ⟨RX5, TX5, 18, tyX5, rfl, by decide, i_X5, rfl, tyX5_ok, nmX5, rfl, rfl, Or.inl (t3 (List.mem_of_getElem? (i := 215) rfl))⟩
set_option maxRecDepth 20000 in
theorem fo_X5_31 : FLo RX5 31 5 13 (.array .int) := ⟨RX5, TX5, 18, tyX5, rfl, by decide, i_X5, rfl, tyX5_ok, nmX5, rfl, rfl, t3 (List.mem_of_getElem? (i := 215) rfl), rfl⟩
set_option maxRecDepth 20000 in
theorem fl_X5_34 : FL RX5 34 5 14 (.array .int) true := ⟨RX5, TX5, 18, tyX5, rfl, by decide, i_X5, rfl, tyX5_ok, nmX5, rfl, rfl, Or.inl (t3 (List.mem_of_getElem? (i := 216) rfl))⟩
set_option maxRecDepth 20000 in
theorem fo_X5_34 : FLo RX5 34 5 14 (.array .int) := ⟨RX5, TX5, 18, tyX5, rfl, by decide, i_X5, rfl, tyX5_ok, nmX5, rfl, rfl, t3 (List.mem_of_getElem? (i := 216) rfl), rfl⟩
set_option maxRecDepth 20000 in
theorem fl_X5_37 : FL RX5 37 5 15 (.array .int) true := ⟨RX5, TX5, 18, tyX5, rfl, by decide, i_X5, rfl, tyX5_ok, nmX5, rfl, rfl, Or.inl (t3 (List.mem_of_getElem? (i := 217) rfl))⟩
set_option maxRecDepth 20000 in
theorem fo_X5_37 : FLo RX5 37 5 15 (.array .int) := ⟨RX5, TX5, 18, tyX5, rfl, by decide, i_X5, rfl, tyX5_ok, nmX5, rfl, rfl, t3 (List.mem_of_getElem? (i := 217) rfl), rfl⟩
set_option maxRecDepth 20000 in
theorem nl_X5_40 : NL RX5 40 4 6 [.int 0, .null, .null, .null, .null, .null] := ⟨RX4, TX4, tyX4, rfl, i_X4, tyX4_ok, (fun j hj => by rcases (show j = 0 ∨ j = 1 ∨ j = 2 ∨ j = 3 ∨ j = 4 ∨ j = 5 by omega) with rfl | rfl | rfl | rfl | rfl | rfl <;> rfl), rfl, t3 (List.mem_of_getElem? (i := 164) rfl), t3 (List.mem_of_getElem? (i := 165) rfl), t1 (List.mem_of_getElem? (i := 6) rfl)⟩
set_option maxRecDepth 20000 in
theorem mn_X5_42 : Cond.methodLinkNest RX5 42 yX4_init "BellRosterModel" ∈ lw_tbl := t3 (List.mem_of_getElem? (i := 166) rfl)
set_option maxRecDepth 20000 in
theorem fl_X5_45 : FL RX5 45 5 16 (.object "BellRosterModel$State") true := ⟨RX5, TX5, 18, tyX5, rfl, by decide, i_X5, rfl, tyX5_ok, nmX5, rfl, rfl, Or.inl (t3 (List.mem_of_getElem? (i := 218) rfl))⟩
set_option maxRecDepth 20000 in
theorem fo_X5_45 : FLo RX5 45 5 16 (.object "BellRosterModel$State") := ⟨RX5, TX5, 18, tyX5, rfl, by decide, i_X5, rfl, tyX5_ok, nmX5, rfl, rfl, t3 (List.mem_of_getElem? (i := 218) rfl), rfl⟩
set_option maxRecDepth 20000 in
theorem fl_X5_49 : FL RX5 49 5 17 (.object "BellRosterModel$State") true := ⟨RX5, TX5, 18, tyX5, rfl, by decide, i_X5, rfl, tyX5_ok, nmX5, rfl, rfl, Or.inl (t3 (List.mem_of_getElem? (i := 219) rfl))⟩
set_option maxRecDepth 20000 in
theorem fo_X5_49 : FLo RX5 49 5 17 (.object "BellRosterModel$State") := ⟨RX5, TX5, 18, tyX5, rfl, by decide, i_X5, rfl, tyX5_ok, nmX5, rfl, rfl, t3 (List.mem_of_getElem? (i := 219) rfl), rfl⟩
set_option maxRecDepth 20000 in
theorem fl_X5_52 : FL RX5 52 5 0 .int false := ⟨RX5, TX5, 18, tyX5, rfl, by decide, i_X5, rfl, tyX5_ok, nmX5, rfl, rfl, Or.inl (t3 (List.mem_of_getElem? (i := 194) rfl))⟩
set_option maxRecDepth 20000 in
theorem fl_X5_56 : FL RX5 56 5 1 .int false := ⟨RX5, TX5, 18, tyX5, rfl, by decide, i_X5, rfl, tyX5_ok, nmX5, rfl, rfl, Or.inl (t3 (List.mem_of_getElem? (i := 196) rfl))⟩
set_option maxRecDepth 20000 in
theorem ml_X5_59 : Cond.methodLink RX5 59 yX5_isIn ∈ lw_tbl := t4 (List.mem_of_getElem? (i := 25) rfl)
set_option maxRecDepth 20000 in
theorem fl_X5_63 : FL RX5 63 5 5 .int false := ⟨RX5, TX5, 18, tyX5, rfl, by decide, i_X5, rfl, tyX5_ok, nmX5, rfl, rfl, Or.inl (t3 (List.mem_of_getElem? (i := 203) rfl))⟩
set_option maxRecDepth 20000 in
theorem fl_X5_66 : FL RX5 66 5 12 .int false := ⟨RX5, TX5, 18, tyX5, rfl, by decide, i_X5, rfl, tyX5_ok, nmX5, rfl, rfl, Or.inl (t3 (List.mem_of_getElem? (i := 214) rfl))⟩
set_option maxRecDepth 20000 in
theorem ml_X5_69 : Cond.methodLink RX5 69 yX5_code ∈ lw_tbl := t4 (List.mem_of_getElem? (i := 126) rfl)
set_option maxRecDepth 20000 in
theorem ml_X5_73 : Cond.methodLink RX5 73 yX5_walkChanges ∈ lw_tbl := t4 (List.mem_of_getElem? (i := 122) rfl)
set_option maxRecDepth 20000 in
theorem ml_X5_77 : Cond.methodLink RX5 77 yX5_isNew ∈ lw_tbl := t4 (List.mem_of_getElem? (i := 134) rfl)
set_option maxRecDepth 20000 in
theorem ml_X5_81 : Cond.methodLink RX5 81 yX5_walk ∈ lw_tbl := t4 (List.mem_of_getElem? (i := 118) rfl)
set_option maxRecDepth 20000 in
theorem ml_X5_84 : Cond.methodLink RX5 84 yX5_no ∈ lw_tbl := t4 (List.mem_of_getElem? (i := 28) rfl)
set_option maxRecDepth 20000 in
theorem fl_X5_88 : FL RX5 88 4 1 (.array .int) true := ⟨RX4, TX4, 6, tyX4, rfl, by decide, i_X4, rfl, tyX4_ok, nmX4, rfl, rfl, Or.inr ⟨"BellRosterModel", t3 (List.mem_of_getElem? (i := 173) rfl)⟩⟩
set_option maxRecDepth 20000 in
theorem fl_X5_91 : FL RX5 91 4 4 (.array .int) true := ⟨RX4, TX4, 6, tyX4, rfl, by decide, i_X4, rfl, tyX4_ok, nmX4, rfl, rfl, Or.inr ⟨"BellRosterModel", t3 (List.mem_of_getElem? (i := 179) rfl)⟩⟩
set_option maxRecDepth 20000 in
theorem ml_X5_94 : Cond.methodLink RX5 94 yX5_isRinger ∈ lw_tbl := t4 (List.mem_of_getElem? (i := 36) rfl)
set_option maxRecDepth 20000 in
theorem ml_X5_97 : Cond.methodLink RX5 97 Lib.Math.min.name ∈ lw_tbl := t4 (List.mem_of_getElem? (i := 40) rfl)
set_option maxRecDepth 20000 in
theorem ml_X5_103 : Cond.methodLink RX5 103 Lib.Math.max.name ∈ lw_tbl := t4 (List.mem_of_getElem? (i := 41) rfl)
set_option maxRecDepth 20000 in
theorem ml_X5_106 : Cond.methodLink RX5 106 yX5_isSeat ∈ lw_tbl := t4 (List.mem_of_getElem? (i := 46) rfl)
set_option maxRecDepth 20000 in
theorem ml_X5_110 : Cond.methodLink RX5 110 yX4_elect ∈ lw_tbl := t4 (List.mem_of_getElem? (i := 53) rfl)
set_option maxRecDepth 20000 in
theorem ml_X5_114 : Cond.methodLink RX5 114 yX4_manned ∈ lw_tbl := t4 (List.mem_of_getElem? (i := 57) rfl)
set_option maxRecDepth 20000 in
theorem ml_X5_117 : Cond.methodLink RX5 117 yX4_ringerOf ∈ lw_tbl := t4 (List.mem_of_getElem? (i := 65) rfl)
set_option maxRecDepth 20000 in
theorem fl_X5_120 : FL RX5 120 4 2 (.array .int) true := ⟨RX4, TX4, 6, tyX4, rfl, by decide, i_X4, rfl, tyX4_ok, nmX4, rfl, rfl, Or.inr ⟨"BellRosterModel", t3 (List.mem_of_getElem? (i := 175) rfl)⟩⟩
set_option maxRecDepth 20000 in
theorem fl_X5_123 : FL RX5 123 4 3 (.array .int) true := ⟨RX4, TX4, 6, tyX4, rfl, by decide, i_X4, rfl, tyX4_ok, nmX4, rfl, rfl, Or.inr ⟨"BellRosterModel", t3 (List.mem_of_getElem? (i := 177) rfl)⟩⟩
set_option maxRecDepth 20000 in
theorem ml_X5_126 : Cond.methodLink RX5 126 yX5_ringerTold ∈ lw_tbl := t4 (List.mem_of_getElem? (i := 77) rfl)
set_option maxRecDepth 20000 in
theorem ml_X5_130 : Cond.methodLink RX5 130 yX4_become ∈ lw_tbl := t4 (List.mem_of_getElem? (i := 89) rfl)
set_option maxRecDepth 20000 in
theorem ml_X5_134 : Cond.methodLink RX5 134 yX5_bellTold ∈ lw_tbl := t4 (List.mem_of_getElem? (i := 85) rfl)
set_option maxRecDepth 20000 in
theorem ml_X5_138 : Cond.methodLink RX5 138 yX5_isMethod ∈ lw_tbl := t4 (List.mem_of_getElem? (i := 106) rfl)
set_option maxRecDepth 20000 in
theorem ml_X5_141 : Cond.methodLink RX5 141 yX5_course ∈ lw_tbl := t4 (List.mem_of_getElem? (i := 130) rfl)
set_option maxRecDepth 20000 in
theorem ml_X5_144 : Cond.methodLink RX5 144 yX5_dodgesOf ∈ lw_tbl := t4 (List.mem_of_getElem? (i := 138) rfl)
set_option maxRecDepth 20000 in
theorem ml_X5_147 : Cond.methodLink RX5 147 yX5_untrue ∈ lw_tbl := t4 (List.mem_of_getElem? (i := 142) rfl)
set_option maxRecDepth 20000 in
theorem ml_X5_150 : Cond.methodLink RX5 150 yX5_methodTold ∈ lw_tbl := t4 (List.mem_of_getElem? (i := 114) rfl)
set_option maxRecDepth 20000 in
theorem ml_X5_153 : Cond.methodLink RX5 153 yX4_canRing ∈ lw_tbl := t4 (List.mem_of_getElem? (i := 158) rfl)
set_option maxRecDepth 20000 in
theorem ml_X5_156 : Cond.methodLink RX5 156 yX4_ring ∈ lw_tbl := t4 (List.mem_of_getElem? (i := 163) rfl)
set_option maxRecDepth 20000 in
theorem fl_X5_159 : FL RX5 159 5 8 .int false := ⟨RX5, TX5, 18, tyX5, rfl, by decide, i_X5, rfl, tyX5_ok, nmX5, rfl, rfl, Or.inl (t3 (List.mem_of_getElem? (i := 207) rfl))⟩
set_option maxRecDepth 20000 in
theorem fl_X5_162 : FL RX5 162 5 9 .int false := ⟨RX5, TX5, 18, tyX5, rfl, by decide, i_X5, rfl, tyX5_ok, nmX5, rfl, rfl, Or.inl (t3 (List.mem_of_getElem? (i := 208) rfl))⟩
set_option maxRecDepth 20000 in
theorem ml_X5_165 : Cond.methodLink RX5 165 yX4_allVotes ∈ lw_tbl := t4 (List.mem_of_getElem? (i := 179) rfl)
set_option maxRecDepth 20000 in
theorem ml_X5_168 : Cond.methodLink RX5 168 yX5_wouldBring ∈ lw_tbl := t4 (List.mem_of_getElem? (i := 175) rfl)
set_option maxRecDepth 20000 in
theorem fl_X5_171 : FL RX5 171 4 0 .int false := ⟨RX4, TX4, 6, tyX4, rfl, by decide, i_X4, rfl, tyX4_ok, nmX4, rfl, rfl, Or.inr ⟨"BellRosterModel", t3 (List.mem_of_getElem? (i := 171) rfl)⟩⟩
set_option maxRecDepth 20000 in
theorem ml_X5_174 : Cond.methodLink RX5 174 yX5_counted ∈ lw_tbl := t4 (List.mem_of_getElem? (i := 191) rfl)
set_option maxRecDepth 20000 in
theorem ml_X5_177 : Cond.methodLink RX5 177 (⟨"[I", "clone", "()Ljava/lang/Object;"⟩ : MethodName) ∈ lw_tbl := t4 (List.mem_of_getElem? (i := 199) rfl)
set_option maxRecDepth 20000 in
theorem kl_X5_178 : Cond.classLink RX5 178 "[I" ∈ lw_tbl := t4 (List.mem_of_getElem? (i := 205) rfl)
set_option maxRecDepth 20000 in
theorem ml_X5_182 : Cond.methodLink RX5 182 yX4_pass_ ∈ lw_tbl := t4 (List.mem_of_getElem? (i := 206) rfl)
set_option maxRecDepth 20000 in
theorem cl_X5_186 : Cond.constantLong RX5 186 1237 ∈ lw_tbl := t4 (List.mem_of_getElem? (i := 227) rfl)
set_option maxRecDepth 20000 in
theorem cl_X5_188 : Cond.constantLong RX5 188 31 ∈ lw_tbl := t4 (List.mem_of_getElem? (i := 228) rfl)
set_option maxRecDepth 20000 in
theorem ml_X0_3 : Cond.methodLink RX0 3 Lib.objectInit ∈ lw_tbl := t1 (List.mem_of_getElem? (i := 99) rfl)
set_option maxRecDepth 20000 in
theorem fl_X0_9 : FL RX0 9 0 0 (.array .int) true := ⟨RX0, TX0, 7, tyX0, rfl, by decide, i_X0, rfl, tyX0_ok, nmX0, rfl, rfl, Or.inl (t1 (List.mem_of_getElem? (i := 100) rfl))⟩
set_option maxRecDepth 20000 in
theorem fo_X0_9 : FLo RX0 9 0 0 (.array .int) := ⟨RX0, TX0, 7, tyX0, rfl, by decide, i_X0, rfl, tyX0_ok, nmX0, rfl, rfl, t1 (List.mem_of_getElem? (i := 100) rfl), rfl⟩
set_option maxRecDepth 20000 in
theorem fl_X0_15 : FL RX0 15 0 1 (.array .int) true := ⟨RX0, TX0, 7, tyX0, rfl, by decide, i_X0, rfl, tyX0_ok, nmX0, rfl, rfl, Or.inl (t1 (List.mem_of_getElem? (i := 101) rfl))⟩
set_option maxRecDepth 20000 in
theorem fo_X0_15 : FLo RX0 15 0 1 (.array .int) := ⟨RX0, TX0, 7, tyX0, rfl, by decide, i_X0, rfl, tyX0_ok, nmX0, rfl, rfl, t1 (List.mem_of_getElem? (i := 101) rfl), rfl⟩
set_option maxRecDepth 20000 in
theorem fl_X0_18 : FL RX0 18 0 3 .int false := ⟨RX0, TX0, 7, tyX0, rfl, by decide, i_X0, rfl, tyX0_ok, nmX0, rfl, rfl, Or.inl (t1 (List.mem_of_getElem? (i := 106) rfl))⟩
set_option maxRecDepth 20000 in
theorem fl_X0_22 : FL RX0 22 0 4 .int false := ⟨RX0, TX0, 7, tyX0, rfl, by decide, i_X0, rfl, tyX0_ok, nmX0, rfl, rfl, Or.inl (t1 (List.mem_of_getElem? (i := 108) rfl))⟩
set_option maxRecDepth 20000 in
theorem fl_X0_25 : FL RX0 25 0 6 .int false := ⟨RX0, TX0, 7, tyX0, rfl, by decide, i_X0, rfl, tyX0_ok, nmX0, rfl, rfl, Or.inl (t1 (List.mem_of_getElem? (i := 110) rfl))⟩
set_option maxRecDepth 20000 in
theorem fl_X0_28 : FL RX0 28 0 2 .int false := ⟨RX0, TX0, 7, tyX0, rfl, by decide, i_X0, rfl, tyX0_ok, nmX0, rfl, rfl, Or.inl (t1 (List.mem_of_getElem? (i := 103) rfl))⟩
set_option maxRecDepth 20000 in
theorem ml_X0_31 : Cond.methodLink RX0 31 yJ7_fill_53178 ∈ lw_tbl := t3 (List.mem_of_getElem? (i := 0) rfl)
set_option maxRecDepth 20000 in
theorem ml_X0_37 : Cond.methodLink RX0 37 yX1_begin ∈ lw_tbl := t3 (List.mem_of_getElem? (i := 3) rfl)
set_option maxRecDepth 20000 in
theorem ml_X0_42 : Cond.methodLink RX0 42 yX0_goThroughLead ∈ lw_tbl := t3 (List.mem_of_getElem? (i := 14) rfl)
set_option maxRecDepth 20000 in
theorem ml_X0_46 : Cond.methodLink RX0 46 yX1_bellsAtHome ∈ lw_tbl := t3 (List.mem_of_getElem? (i := 29) rfl)
set_option maxRecDepth 20000 in
theorem ml_X0_50 : Cond.methodLink RX0 50 yX1_isRounds ∈ lw_tbl := t3 (List.mem_of_getElem? (i := 33) rfl)
set_option maxRecDepth 20000 in
theorem ml_X0_54 : Cond.methodLink RX0 54 yX1_differentRows ∈ lw_tbl := t3 (List.mem_of_getElem? (i := 38) rfl)
set_option maxRecDepth 20000 in
theorem ml_X0_57 : Cond.methodLink RX0 57 yX1_falseRows ∈ lw_tbl := t3 (List.mem_of_getElem? (i := 42) rfl)
set_option maxRecDepth 20000 in
theorem fl_X0_60 : FL RX0 60 0 5 .int false := ⟨RX0, TX0, 7, tyX0, rfl, by decide, i_X0, rfl, tyX0_ok, nmX0, rfl, rfl, Or.inl (t1 (List.mem_of_getElem? (i := 109) rfl))⟩
set_option maxRecDepth 20000 in
theorem ml_X0_63 : Cond.methodLink RX0 63 yX1_makeChange ∈ lw_tbl := t3 (List.mem_of_getElem? (i := 18) rfl)
set_option maxRecDepth 20000 in
theorem ml_X0_67 : Cond.methodLink RX0 67 yX1_hasDodged ∈ lw_tbl := t3 (List.mem_of_getElem? (i := 25) rfl)
set_option maxRecDepth 20000 in
theorem ml_X0_71 : Cond.methodLink RX0 71 yX0_allDodges ∈ lw_tbl := t2 (List.mem_of_getElem? (i := 94) rfl)
set_option maxRecDepth 20000 in
theorem ml_X1_3 : Cond.methodLink RX1 3 Lib.objectInit ∈ lw_tbl := t1 (List.mem_of_getElem? (i := 72) rfl)
set_option maxRecDepth 20000 in
theorem fl_X1_9 : FL RX1 9 1 0 (.array .int) true := ⟨RX1, TX1, 6, tyX1, rfl, by decide, i_X1, rfl, tyX1_ok, nmX1, rfl, rfl, Or.inl (t1 (List.mem_of_getElem? (i := 73) rfl))⟩
set_option maxRecDepth 20000 in
theorem fo_X1_9 : FLo RX1 9 1 0 (.array .int) := ⟨RX1, TX1, 6, tyX1, rfl, by decide, i_X1, rfl, tyX1_ok, nmX1, rfl, rfl, t1 (List.mem_of_getElem? (i := 73) rfl), rfl⟩
set_option maxRecDepth 20000 in
theorem fl_X1_15 : FL RX1 15 1 1 (.array .int) true := ⟨RX1, TX1, 6, tyX1, rfl, by decide, i_X1, rfl, tyX1_ok, nmX1, rfl, rfl, Or.inl (t1 (List.mem_of_getElem? (i := 74) rfl))⟩
set_option maxRecDepth 20000 in
theorem fo_X1_15 : FLo RX1 15 1 1 (.array .int) := ⟨RX1, TX1, 6, tyX1, rfl, by decide, i_X1, rfl, tyX1_ok, nmX1, rfl, rfl, t1 (List.mem_of_getElem? (i := 74) rfl), rfl⟩
set_option maxRecDepth 20000 in
theorem fl_X1_18 : FL RX1 18 1 2 (.array .int) true := ⟨RX1, TX1, 6, tyX1, rfl, by decide, i_X1, rfl, tyX1_ok, nmX1, rfl, rfl, Or.inl (t1 (List.mem_of_getElem? (i := 75) rfl))⟩
set_option maxRecDepth 20000 in
theorem fo_X1_18 : FLo RX1 18 1 2 (.array .int) := ⟨RX1, TX1, 6, tyX1, rfl, by decide, i_X1, rfl, tyX1_ok, nmX1, rfl, rfl, t1 (List.mem_of_getElem? (i := 75) rfl), rfl⟩
set_option maxRecDepth 20000 in
theorem fl_X1_21 : FL RX1 21 1 3 (.array .long) true := ⟨RX1, TX1, 6, tyX1, rfl, by decide, i_X1, rfl, tyX1_ok, nmX1, rfl, rfl, Or.inl (t1 (List.mem_of_getElem? (i := 76) rfl))⟩
set_option maxRecDepth 20000 in
theorem fo_X1_21 : FLo RX1 21 1 3 (.array .long) := ⟨RX1, TX1, 6, tyX1, rfl, by decide, i_X1, rfl, tyX1_ok, nmX1, rfl, rfl, t1 (List.mem_of_getElem? (i := 76) rfl), rfl⟩
set_option maxRecDepth 20000 in
theorem ml_X1_25 : Cond.methodLink RX1 25 yJ7_fill_d0a16 ∈ lw_tbl := t3 (List.mem_of_getElem? (i := 7) rfl)
set_option maxRecDepth 20000 in
theorem fl_X1_31 : FL RX1 31 1 4 .int false := ⟨RX1, TX1, 6, tyX1, rfl, by decide, i_X1, rfl, tyX1_ok, nmX1, rfl, rfl, Or.inl (t1 (List.mem_of_getElem? (i := 77) rfl))⟩
set_option maxRecDepth 20000 in
theorem fl_X1_35 : FL RX1 35 1 5 .int false := ⟨RX1, TX1, 6, tyX1, rfl, by decide, i_X1, rfl, tyX1_ok, nmX1, rfl, rfl, Or.inl (t1 (List.mem_of_getElem? (i := 78) rfl))⟩
set_option maxRecDepth 20000 in
theorem ml_X1_38 : Cond.methodLink RX1 38 yX1_noteRow ∈ lw_tbl := t3 (List.mem_of_getElem? (i := 10) rfl)
set_option maxRecDepth 20000 in
theorem ml_X1_41 : Cond.methodLink RX1 41 yX1_moveFrom ∈ lw_tbl := t3 (List.mem_of_getElem? (i := 22) rfl)
set_option maxRecDepth 20000 in
theorem ml_X1_45 : Cond.methodLink RX1 45 yX1_bellsAtHome ∈ lw_tbl := t3 (List.mem_of_getElem? (i := 37) rfl)
set_option maxRecDepth 20000 in
theorem ml_X1_49 : Cond.methodLink RX1 49 yX1_isRounds ∈ lw_tbl := t3 (List.mem_of_getElem? (i := 46) rfl)
set_option maxRecDepth 20000 in
theorem ml_X1_53 : Cond.methodLink RX1 53 yX1_bellAt ∈ lw_tbl := t3 (List.mem_of_getElem? (i := 65) rfl)
set_option maxRecDepth 20000 in
theorem ml_X2_3 : Cond.methodLink RX2 3 Lib.objectInit ∈ lw_tbl := t1 (List.mem_of_getElem? (i := 29) rfl)
set_option maxRecDepth 20000 in
theorem fl_X2_9 : FL RX2 9 2 0 (.array .int) true := ⟨RX2, TX2, 10, tyX2, rfl, by decide, i_X2, rfl, tyX2_ok, nmX2, rfl, rfl, Or.inl (t1 (List.mem_of_getElem? (i := 30) rfl))⟩
set_option maxRecDepth 20000 in
theorem fo_X2_9 : FLo RX2 9 2 0 (.array .int) := ⟨RX2, TX2, 10, tyX2, rfl, by decide, i_X2, rfl, tyX2_ok, nmX2, rfl, rfl, t1 (List.mem_of_getElem? (i := 30) rfl), rfl⟩
set_option maxRecDepth 20000 in
theorem fl_X2_15 : FL RX2 15 2 1 (.array .int) true := ⟨RX2, TX2, 10, tyX2, rfl, by decide, i_X2, rfl, tyX2_ok, nmX2, rfl, rfl, Or.inl (t1 (List.mem_of_getElem? (i := 31) rfl))⟩
set_option maxRecDepth 20000 in
theorem fo_X2_15 : FLo RX2 15 2 1 (.array .int) := ⟨RX2, TX2, 10, tyX2, rfl, by decide, i_X2, rfl, tyX2_ok, nmX2, rfl, rfl, t1 (List.mem_of_getElem? (i := 31) rfl), rfl⟩
set_option maxRecDepth 20000 in
theorem fl_X2_18 : FL RX2 18 2 2 (.array .int) true := ⟨RX2, TX2, 10, tyX2, rfl, by decide, i_X2, rfl, tyX2_ok, nmX2, rfl, rfl, Or.inl (t1 (List.mem_of_getElem? (i := 32) rfl))⟩
set_option maxRecDepth 20000 in
theorem fo_X2_18 : FLo RX2 18 2 2 (.array .int) := ⟨RX2, TX2, 10, tyX2, rfl, by decide, i_X2, rfl, tyX2_ok, nmX2, rfl, rfl, t1 (List.mem_of_getElem? (i := 32) rfl), rfl⟩
set_option maxRecDepth 20000 in
theorem fl_X2_21 : FL RX2 21 2 3 (.array .int) true := ⟨RX2, TX2, 10, tyX2, rfl, by decide, i_X2, rfl, tyX2_ok, nmX2, rfl, rfl, Or.inl (t1 (List.mem_of_getElem? (i := 34) rfl))⟩
set_option maxRecDepth 20000 in
theorem fo_X2_21 : FLo RX2 21 2 3 (.array .int) := ⟨RX2, TX2, 10, tyX2, rfl, by decide, i_X2, rfl, tyX2_ok, nmX2, rfl, rfl, t1 (List.mem_of_getElem? (i := 34) rfl), rfl⟩
set_option maxRecDepth 20000 in
theorem fl_X2_24 : FL RX2 24 2 4 (.array .int) true := ⟨RX2, TX2, 10, tyX2, rfl, by decide, i_X2, rfl, tyX2_ok, nmX2, rfl, rfl, Or.inl (t1 (List.mem_of_getElem? (i := 35) rfl))⟩
set_option maxRecDepth 20000 in
theorem fo_X2_24 : FLo RX2 24 2 4 (.array .int) := ⟨RX2, TX2, 10, tyX2, rfl, by decide, i_X2, rfl, tyX2_ok, nmX2, rfl, rfl, t1 (List.mem_of_getElem? (i := 35) rfl), rfl⟩
set_option maxRecDepth 20000 in
theorem fl_X2_27 : FL RX2 27 2 5 (.array .int) true := ⟨RX2, TX2, 10, tyX2, rfl, by decide, i_X2, rfl, tyX2_ok, nmX2, rfl, rfl, Or.inl (t1 (List.mem_of_getElem? (i := 36) rfl))⟩
set_option maxRecDepth 20000 in
theorem fo_X2_27 : FLo RX2 27 2 5 (.array .int) := ⟨RX2, TX2, 10, tyX2, rfl, by decide, i_X2, rfl, tyX2_ok, nmX2, rfl, rfl, t1 (List.mem_of_getElem? (i := 36) rfl), rfl⟩
set_option maxRecDepth 20000 in
theorem fl_X2_30 : FL RX2 30 2 6 (.array .int) true := ⟨RX2, TX2, 10, tyX2, rfl, by decide, i_X2, rfl, tyX2_ok, nmX2, rfl, rfl, Or.inl (t1 (List.mem_of_getElem? (i := 37) rfl))⟩
set_option maxRecDepth 20000 in
theorem fo_X2_30 : FLo RX2 30 2 6 (.array .int) := ⟨RX2, TX2, 10, tyX2, rfl, by decide, i_X2, rfl, tyX2_ok, nmX2, rfl, rfl, t1 (List.mem_of_getElem? (i := 37) rfl), rfl⟩
set_option maxRecDepth 20000 in
theorem fl_X2_33 : FL RX2 33 2 7 (.array .int) true := ⟨RX2, TX2, 10, tyX2, rfl, by decide, i_X2, rfl, tyX2_ok, nmX2, rfl, rfl, Or.inl (t1 (List.mem_of_getElem? (i := 39) rfl))⟩
set_option maxRecDepth 20000 in
theorem fo_X2_33 : FLo RX2 33 2 7 (.array .int) := ⟨RX2, TX2, 10, tyX2, rfl, by decide, i_X2, rfl, tyX2_ok, nmX2, rfl, rfl, t1 (List.mem_of_getElem? (i := 39) rfl), rfl⟩
set_option maxRecDepth 20000 in
theorem ml_X2_36 : Cond.methodLink RX2 36 arraycopyName ∈ lw_tbl := t2 (List.mem_of_getElem? (i := 67) rfl)
set_option maxRecDepth 20000 in
theorem fl_X2_42 : FL RX2 42 2 8 .int false := ⟨RX2, TX2, 10, tyX2, rfl, by decide, i_X2, rfl, tyX2_ok, nmX2, rfl, rfl, Or.inl (t1 (List.mem_of_getElem? (i := 42) rfl))⟩
set_option maxRecDepth 20000 in
theorem fl_X2_46 : FL RX2 46 2 9 .int false := ⟨RX2, TX2, 10, tyX2, rfl, by decide, i_X2, rfl, tyX2_ok, nmX2, rfl, rfl, Or.inl (t1 (List.mem_of_getElem? (i := 43) rfl))⟩
set_option maxRecDepth 20000 in
theorem ml_X2_49 : Cond.methodLink RX2 49 Lib.Math.min.name ∈ lw_tbl := t2 (List.mem_of_getElem? (i := 166) rfl)
set_option maxRecDepth 20000 in
theorem ml_X2_55 : Cond.methodLink RX2 55 Lib.Math.max.name ∈ lw_tbl := t2 (List.mem_of_getElem? (i := 169) rfl)
set_option maxRecDepth 20000 in
theorem ml_X2_58 : Cond.methodLink RX2 58 yX2_ringsBell ∈ lw_tbl := t1 (List.mem_of_getElem? (i := 164) rfl)
set_option maxRecDepth 20000 in
theorem ml_X2_62 : Cond.methodLink RX2 62 yX2_bandOf ∈ lw_tbl := t1 (List.mem_of_getElem? (i := 160) rfl)
set_option maxRecDepth 20000 in
theorem ml_X2_66 : Cond.methodLink RX2 66 yX2_bellOf ∈ lw_tbl := t2 (List.mem_of_getElem? (i := 37) rfl)
set_option maxRecDepth 20000 in
theorem ml_X2_69 : Cond.methodLink RX2 69 yX2_rankOf ∈ lw_tbl := t2 (List.mem_of_getElem? (i := 41) rfl)
set_option maxRecDepth 20000 in
theorem ml_X2_72 : Cond.methodLink RX2 72 yX2_electTo ∈ lw_tbl := t2 (List.mem_of_getElem? (i := 74) rfl)
set_option maxRecDepth 20000 in
theorem ml_X2_76 : Cond.methodLink RX2 76 yX2_ringersIn ∈ lw_tbl := t1 (List.mem_of_getElem? (i := 156) rfl)
set_option maxRecDepth 20000 in
theorem ml_X2_79 : Cond.methodLink RX2 79 yJ7_fill_53178 ∈ lw_tbl := t3 (List.mem_of_getElem? (i := 93) rfl)
set_option maxRecDepth 20000 in
theorem ml_X2_85 : Cond.methodLink RX2 85 yX1_begin ∈ lw_tbl := t3 (List.mem_of_getElem? (i := 94) rfl)
set_option maxRecDepth 20000 in
theorem fl_X2_90 : FL RX2 90 0 2 .int false := ⟨RX0, TX0, 7, tyX0, rfl, by decide, i_X0, rfl, tyX0_ok, nmX0, rfl, rfl, Or.inr ⟨"BellRoster", t1 (List.mem_of_getElem? (i := 105) rfl)⟩⟩
set_option maxRecDepth 20000 in
theorem ml_X2_95 : Cond.methodLink RX2 95 yX0_changeAt ∈ lw_tbl := t3 (List.mem_of_getElem? (i := 95) rfl)
set_option maxRecDepth 20000 in
theorem ml_X2_98 : Cond.methodLink RX2 98 yX1_makeChange ∈ lw_tbl := t3 (List.mem_of_getElem? (i := 96) rfl)
set_option maxRecDepth 20000 in
theorem ml_X2_101 : Cond.methodLink RX2 101 yX2_tireDodgers ∈ lw_tbl := t3 (List.mem_of_getElem? (i := 97) rfl)
set_option maxRecDepth 20000 in
theorem ml_X2_105 : Cond.methodLink RX2 105 yX1_falseRows ∈ lw_tbl := t3 (List.mem_of_getElem? (i := 106) rfl)
set_option maxRecDepth 20000 in
theorem ml_X2_109 : Cond.methodLink RX2 109 yX1_isRounds ∈ lw_tbl := t3 (List.mem_of_getElem? (i := 107) rfl)
set_option maxRecDepth 20000 in
theorem ml_X2_113 : Cond.methodLink RX2 113 yX2_changeVotes ∈ lw_tbl := t3 (List.mem_of_getElem? (i := 108) rfl)
set_option maxRecDepth 20000 in
theorem ml_X2_117 : Cond.methodLink RX2 117 yX1_hasDodged ∈ lw_tbl := t3 (List.mem_of_getElem? (i := 101) rfl)
set_option maxRecDepth 20000 in
theorem ml_X2_120 : Cond.methodLink RX2 120 yX2_tire ∈ lw_tbl := t3 (List.mem_of_getElem? (i := 102) rfl)
set_option maxRecDepth 20000 in
theorem ml_X2_123 : Cond.methodLink RX2 123 yX2_passDay ∈ lw_tbl := t3 (List.mem_of_getElem? (i := 142) rfl)
set_option maxRecDepth 20000 in
theorem ml_X2_126 : Cond.methodLink RX2 126 yX2_electBand ∈ lw_tbl := t3 (List.mem_of_getElem? (i := 146) rfl)
set_option maxRecDepth 20000 in
theorem fl_X4_3 : FL RX4 3 4 5 (.object "BellRosterModel") true := ⟨RX4, TX4, 6, tyX4, rfl, by decide, i_X4, rfl, tyX4_ok, nmX4, rfl, rfl, Or.inl (t3 (List.mem_of_getElem? (i := 180) rfl))⟩
set_option maxRecDepth 20000 in
theorem fo_X4_3 : FLo RX4 3 4 5 (.object "BellRosterModel") := ⟨RX4, TX4, 6, tyX4, rfl, by decide, i_X4, rfl, tyX4_ok, nmX4, rfl, rfl, t3 (List.mem_of_getElem? (i := 180) rfl), rfl⟩
set_option maxRecDepth 20000 in
theorem ml_X4_9 : Cond.methodLink RX4 9 Lib.objectInit ∈ lw_tbl := t3 (List.mem_of_getElem? (i := 169) rfl)
set_option maxRecDepth 20000 in
theorem fl_X4_15 : FL RX4 15 4 1 (.array .int) true := ⟨RX4, TX4, 6, tyX4, rfl, by decide, i_X4, rfl, tyX4_ok, nmX4, rfl, rfl, Or.inl (t3 (List.mem_of_getElem? (i := 172) rfl))⟩
set_option maxRecDepth 20000 in
theorem fo_X4_15 : FLo RX4 15 4 1 (.array .int) := ⟨RX4, TX4, 6, tyX4, rfl, by decide, i_X4, rfl, tyX4_ok, nmX4, rfl, rfl, t3 (List.mem_of_getElem? (i := 172) rfl), rfl⟩
set_option maxRecDepth 20000 in
theorem fl_X4_19 : FL RX4 19 4 2 (.array .int) true := ⟨RX4, TX4, 6, tyX4, rfl, by decide, i_X4, rfl, tyX4_ok, nmX4, rfl, rfl, Or.inl (t3 (List.mem_of_getElem? (i := 174) rfl))⟩
set_option maxRecDepth 20000 in
theorem fo_X4_19 : FLo RX4 19 4 2 (.array .int) := ⟨RX4, TX4, 6, tyX4, rfl, by decide, i_X4, rfl, tyX4_ok, nmX4, rfl, rfl, t3 (List.mem_of_getElem? (i := 174) rfl), rfl⟩
set_option maxRecDepth 20000 in
theorem fl_X4_22 : FL RX4 22 4 3 (.array .int) true := ⟨RX4, TX4, 6, tyX4, rfl, by decide, i_X4, rfl, tyX4_ok, nmX4, rfl, rfl, Or.inl (t3 (List.mem_of_getElem? (i := 176) rfl))⟩
set_option maxRecDepth 20000 in
theorem fo_X4_22 : FLo RX4 22 4 3 (.array .int) := ⟨RX4, TX4, 6, tyX4, rfl, by decide, i_X4, rfl, tyX4_ok, nmX4, rfl, rfl, t3 (List.mem_of_getElem? (i := 176) rfl), rfl⟩
set_option maxRecDepth 20000 in
theorem fl_X4_25 : FL RX4 25 4 4 (.array .int) true := ⟨RX4, TX4, 6, tyX4, rfl, by decide, i_X4, rfl, tyX4_ok, nmX4, rfl, rfl, Or.inl (t3 (List.mem_of_getElem? (i := 178) rfl))⟩
set_option maxRecDepth 20000 in
theorem fo_X4_25 : FLo RX4 25 4 4 (.array .int) := ⟨RX4, TX4, 6, tyX4, rfl, by decide, i_X4, rfl, tyX4_ok, nmX4, rfl, rfl, t3 (List.mem_of_getElem? (i := 178) rfl), rfl⟩
set_option maxRecDepth 20000 in
theorem ml_X4_28 : Cond.methodLink RX4 28 arraycopyName ∈ lw_tbl := t4 (List.mem_of_getElem? (i := 97) rfl)
set_option maxRecDepth 20000 in
theorem fl_X4_34 : FL RX4 34 4 0 .int false := ⟨RX4, TX4, 6, tyX4, rfl, by decide, i_X4, rfl, tyX4_ok, nmX4, rfl, rfl, Or.inl (t3 (List.mem_of_getElem? (i := 170) rfl))⟩
set_option maxRecDepth 20000 in
theorem ml_X4_38 : Cond.methodLink RX4 38 yX4_copy ∈ lw_tbl := t4 (List.mem_of_getElem? (i := 93) rfl)
set_option maxRecDepth 20000 in
theorem fl_X4_42 : FL RX4 42 5 1 .int false := ⟨RX5, TX5, 18, tyX5, rfl, by decide, i_X5, rfl, tyX5_ok, nmX5, rfl, rfl, Or.inr ⟨"BellRosterModel", t3 (List.mem_of_getElem? (i := 195) rfl)⟩⟩
set_option maxRecDepth 20000 in
theorem fl_X4_45 : FL RX4 45 5 2 (.array .int) true := ⟨RX5, TX5, 18, tyX5, rfl, by decide, i_X5, rfl, tyX5_ok, nmX5, rfl, rfl, Or.inr ⟨"BellRosterModel", t3 (List.mem_of_getElem? (i := 198) rfl)⟩⟩
set_option maxRecDepth 20000 in
theorem fl_X4_48 : FL RX4 48 5 4 (.array .int) true := ⟨RX5, TX5, 18, tyX5, rfl, by decide, i_X5, rfl, tyX5_ok, nmX5, rfl, rfl, Or.inr ⟨"BellRosterModel", t3 (List.mem_of_getElem? (i := 202) rfl)⟩⟩
set_option maxRecDepth 20000 in
theorem fl_X4_51 : FL RX4 51 5 6 (.array .int) true := ⟨RX5, TX5, 18, tyX5, rfl, by decide, i_X5, rfl, tyX5_ok, nmX5, rfl, rfl, Or.inr ⟨"BellRosterModel", t3 (List.mem_of_getElem? (i := 205) rfl)⟩⟩
set_option maxRecDepth 20000 in
theorem ml_X4_54 : Cond.methodLink RX4 54 yX4_manned ∈ lw_tbl := t4 (List.mem_of_getElem? (i := 162) rfl)
set_option maxRecDepth 20000 in
theorem mn_X4_58 : Cond.methodLinkNest RX4 58 yX5_walk "BellRosterModel" ∈ lw_tbl := t4 (List.mem_of_getElem? (i := 167) rfl)
set_option maxRecDepth 20000 in
theorem mn_X4_62 : Cond.methodLinkNest RX4 62 yX5_untrue "BellRosterModel" ∈ lw_tbl := t4 (List.mem_of_getElem? (i := 168) rfl)
set_option maxRecDepth 20000 in
theorem fl_X4_66 : FL RX4 66 5 10 (.array .int) true := ⟨RX5, TX5, 18, tyX5, rfl, by decide, i_X5, rfl, tyX5_ok, nmX5, rfl, rfl, Or.inr ⟨"BellRosterModel", t3 (List.mem_of_getElem? (i := 210) rfl)⟩⟩
set_option maxRecDepth 20000 in
theorem fl_X4_69 : FL RX4 69 5 12 .int false := ⟨RX5, TX5, 18, tyX5, rfl, by decide, i_X5, rfl, tyX5_ok, nmX5, rfl, rfl, Or.inr ⟨"BellRosterModel", t3 (List.mem_of_getElem? (i := 213) rfl)⟩⟩
set_option maxRecDepth 20000 in
theorem fl_X4_72 : FL RX4 72 5 11 (.array .int) true := ⟨RX5, TX5, 18, tyX5, rfl, by decide, i_X5, rfl, tyX5_ok, nmX5, rfl, rfl, Or.inr ⟨"BellRosterModel", t3 (List.mem_of_getElem? (i := 212) rfl)⟩⟩
set_option maxRecDepth 20000 in
theorem ml_X4_75 : Cond.methodLink RX4 75 Lib.Math.min.name ∈ lw_tbl := t4 (List.mem_of_getElem? (i := 169) rfl)
set_option maxRecDepth 20000 in
theorem fl_X4_81 : FL RX4 81 5 3 (.array .int) true := ⟨RX5, TX5, 18, tyX5, rfl, by decide, i_X5, rfl, tyX5_ok, nmX5, rfl, rfl, Or.inr ⟨"BellRosterModel", t3 (List.mem_of_getElem? (i := 200) rfl)⟩⟩
set_option maxRecDepth 20000 in
theorem ml_X4_84 : Cond.methodLink RX4 84 Lib.Math.max.name ∈ lw_tbl := t4 (List.mem_of_getElem? (i := 170) rfl)
set_option maxRecDepth 20000 in
theorem ml_X4_87 : Cond.methodLink RX4 87 yX4_elect ∈ lw_tbl := t4 (List.mem_of_getElem? (i := 214) rfl)
set_option maxRecDepth 20000 in
theorem ml_X4_91 : Cond.methodLink RX4 91 yX4_pass ∈ lw_tbl := t4 (List.mem_of_getElem? (i := 210) rfl)
set_option maxRecDepth 20000 in
theorem ml_L_7 : Cond.methodLink RL 7 yX3_ringer ∈ lw_tbl := t2 (List.mem_of_getElem? (i := 112) rfl)
set_option maxRecDepth 20000 in
theorem ml_L_19 : Cond.methodLink RL 19 yX3_vote ∈ lw_tbl := t2 (List.mem_of_getElem? (i := 158) rfl)
set_option maxRecDepth 20000 in
theorem ml_L_23 : Cond.methodLink RL 23 yX3_seat ∈ lw_tbl := t2 (List.mem_of_getElem? (i := 175) rfl)
set_option maxRecDepth 20000 in
theorem ml_L_26 : Cond.methodLink RL 26 yX3_elect ∈ lw_tbl := t2 (List.mem_of_getElem? (i := 182) rfl)
set_option maxRecDepth 20000 in
theorem ml_L_30 : Cond.methodLink RL 30 yX3_put ∈ lw_tbl := t2 (List.mem_of_getElem? (i := 190) rfl)
set_option maxRecDepth 20000 in
theorem ml_L_33 : Cond.methodLink RL 33 yX3_leave ∈ lw_tbl := t2 (List.mem_of_getElem? (i := 200) rfl)
set_option maxRecDepth 20000 in
theorem ml_L_36 : Cond.methodLink RL 36 yX3_told ∈ lw_tbl := t2 (List.mem_of_getElem? (i := 210) rfl)
set_option maxRecDepth 20000 in
theorem ml_L_39 : Cond.methodLink RL 39 yX3_bell ∈ lw_tbl := t2 (List.mem_of_getElem? (i := 214) rfl)
set_option maxRecDepth 20000 in
theorem ml_L_42 : Cond.methodLink RL 42 yX3_method ∈ lw_tbl := t2 (List.mem_of_getElem? (i := 218) rfl)
set_option maxRecDepth 20000 in
theorem ml_L_46 : Cond.methodLink RL 46 yX3_add ∈ lw_tbl := t2 (List.mem_of_getElem? (i := 226) rfl)
set_option maxRecDepth 20000 in
theorem ml_L_49 : Cond.methodLink RL 49 yX3_about ∈ lw_tbl := t3 (List.mem_of_getElem? (i := 50) rfl)
set_option maxRecDepth 20000 in
theorem ml_L_52 : Cond.methodLink RL 52 yX3_row ∈ lw_tbl := t3 (List.mem_of_getElem? (i := 54) rfl)
set_option maxRecDepth 20000 in
theorem ml_L_55 : Cond.methodLink RL 55 yX3_dodges ∈ lw_tbl := t3 (List.mem_of_getElem? (i := 72) rfl)
set_option maxRecDepth 20000 in
theorem ml_L_58 : Cond.methodLink RL 58 yX3_ring ∈ lw_tbl := t3 (List.mem_of_getElem? (i := 76) rfl)
set_option maxRecDepth 20000 in
theorem ml_L_61 : Cond.methodLink RL 61 yX3_would ∈ lw_tbl := t3 (List.mem_of_getElem? (i := 112) rfl)
set_option maxRecDepth 20000 in
theorem ml_L_64 : Cond.methodLink RL 64 yX3_advise ∈ lw_tbl := t3 (List.mem_of_getElem? (i := 123) rfl)
set_option maxRecDepth 20000 in
theorem ml_L_67 : Cond.methodLink RL 67 yX3_count ∈ lw_tbl := t3 (List.mem_of_getElem? (i := 130) rfl)
set_option maxRecDepth 20000 in
theorem ml_L_70 : Cond.methodLink RL 70 yX3_pass ∈ lw_tbl := t3 (List.mem_of_getElem? (i := 134) rfl)
set_option maxRecDepth 20000 in
theorem ml_L_73 : Cond.methodLink RL 73 yX3_foresee ∈ lw_tbl := t3 (List.mem_of_getElem? (i := 154) rfl)
set_option maxRecDepth 20000 in
theorem nl_L_8 : NL RL 8 3 7 [.null, .null, .null, .null, .int 0, .int 0, .int 0] := ⟨RX3, TX3, tyX3, rfl, i_X3, tyX3_ok, (fun j hj => by rcases (show j = 0 ∨ j = 1 ∨ j = 2 ∨ j = 3 ∨ j = 4 ∨ j = 5 ∨ j = 6 by omega) with rfl | rfl | rfl | rfl | rfl | rfl | rfl <;> rfl), rfl, t1 (List.mem_of_getElem? (i := 16) rfl), t1 (List.mem_of_getElem? (i := 17) rfl), t1 (List.mem_of_getElem? (i := 1) rfl)⟩
set_option maxRecDepth 20000 in
theorem ml_L_76 : Cond.methodLink RL 76 yX3_init ∈ lw_tbl := t1 (List.mem_of_getElem? (i := 18) rfl)
set_option maxRecDepth 20000 in
theorem nl_L_77 : NL RL 77 5 18 [.int 0, .int 0, .null, .null, .null, .int 0, .null, .null, .int 0, .int 0, .null, .null, .int 0, .null, .null, .null, .null, .null] := ⟨RX5, TX5, tyX5, rfl, i_X5, tyX5_ok, (fun j hj => by rcases (show j = 0 ∨ j = 1 ∨ j = 2 ∨ j = 3 ∨ j = 4 ∨ j = 5 ∨ j = 6 ∨ j = 7 ∨ j = 8 ∨ j = 9 ∨ j = 10 ∨ j = 11 ∨ j = 12 ∨ j = 13 ∨ j = 14 ∨ j = 15 ∨ j = 16 ∨ j = 17 by omega) with rfl | rfl | rfl | rfl | rfl | rfl | rfl | rfl | rfl | rfl | rfl | rfl | rfl | rfl | rfl | rfl | rfl | rfl <;> rfl), rfl, t3 (List.mem_of_getElem? (i := 158) rfl), t3 (List.mem_of_getElem? (i := 159) rfl), t1 (List.mem_of_getElem? (i := 5) rfl)⟩
set_option maxRecDepth 20000 in
theorem ml_L_79 : Cond.methodLink RL 79 yX5_init ∈ lw_tbl := t3 (List.mem_of_getElem? (i := 160) rfl)
set_option maxRecDepth 20000 in
theorem ml_L_80 : Cond.methodLink RL 80 yL_ringer ∈ lw_tbl := t2 (List.mem_of_getElem? (i := 106) rfl)
set_option maxRecDepth 20000 in
theorem ml_L_85 : Cond.methodLink RL 85 yX5_ringer ∈ lw_tbl := t4 (List.mem_of_getElem? (i := 21) rfl)
set_option maxRecDepth 20000 in
theorem ml_L_86 : Cond.methodLink RL 86 yX5_thrown ∈ lw_tbl := t4 (List.mem_of_getElem? (i := 17) rfl)
set_option maxRecDepth 20000 in
theorem ml_L_89 : Cond.methodLink RL 89 yL_vote ∈ lw_tbl := t2 (List.mem_of_getElem? (i := 155) rfl)
set_option maxRecDepth 20000 in
theorem ml_L_92 : Cond.methodLink RL 92 yX5_vote ∈ lw_tbl := t4 (List.mem_of_getElem? (i := 32) rfl)
set_option maxRecDepth 20000 in
theorem ml_L_93 : Cond.methodLink RL 93 yL_seat ∈ lw_tbl := t2 (List.mem_of_getElem? (i := 172) rfl)
set_option maxRecDepth 20000 in
theorem ml_L_95 : Cond.methodLink RL 95 yX5_seat ∈ lw_tbl := t4 (List.mem_of_getElem? (i := 42) rfl)
set_option maxRecDepth 20000 in
theorem ml_L_96 : Cond.methodLink RL 96 yL_elect ∈ lw_tbl := t2 (List.mem_of_getElem? (i := 179) rfl)
set_option maxRecDepth 20000 in
theorem ml_L_99 : Cond.methodLink RL 99 yX5_elect ∈ lw_tbl := t4 (List.mem_of_getElem? (i := 49) rfl)
set_option maxRecDepth 20000 in
theorem ml_L_100 : Cond.methodLink RL 100 yL_put ∈ lw_tbl := t2 (List.mem_of_getElem? (i := 187) rfl)
set_option maxRecDepth 20000 in
theorem ml_L_102 : Cond.methodLink RL 102 yX5_put ∈ lw_tbl := t4 (List.mem_of_getElem? (i := 61) rfl)
set_option maxRecDepth 20000 in
theorem ml_L_103 : Cond.methodLink RL 103 yL_leave ∈ lw_tbl := t2 (List.mem_of_getElem? (i := 197) rfl)
set_option maxRecDepth 20000 in
theorem ml_L_105 : Cond.methodLink RL 105 yX5_leave ∈ lw_tbl := t4 (List.mem_of_getElem? (i := 69) rfl)
set_option maxRecDepth 20000 in
theorem ml_L_106 : Cond.methodLink RL 106 yL_told ∈ lw_tbl := t2 (List.mem_of_getElem? (i := 207) rfl)
set_option maxRecDepth 20000 in
theorem ml_L_108 : Cond.methodLink RL 108 yX5_told ∈ lw_tbl := t4 (List.mem_of_getElem? (i := 73) rfl)
set_option maxRecDepth 20000 in
theorem ml_L_109 : Cond.methodLink RL 109 yL_bell ∈ lw_tbl := t2 (List.mem_of_getElem? (i := 211) rfl)
set_option maxRecDepth 20000 in
theorem ml_L_111 : Cond.methodLink RL 111 yX5_bell ∈ lw_tbl := t4 (List.mem_of_getElem? (i := 81) rfl)
set_option maxRecDepth 20000 in
theorem ml_L_112 : Cond.methodLink RL 112 yL_method ∈ lw_tbl := t2 (List.mem_of_getElem? (i := 215) rfl)
set_option maxRecDepth 20000 in
theorem ml_L_115 : Cond.methodLink RL 115 yX5_method ∈ lw_tbl := t4 (List.mem_of_getElem? (i := 98) rfl)
set_option maxRecDepth 20000 in
theorem ml_L_116 : Cond.methodLink RL 116 yL_add ∈ lw_tbl := t2 (List.mem_of_getElem? (i := 223) rfl)
set_option maxRecDepth 20000 in
theorem ml_L_118 : Cond.methodLink RL 118 yX5_add ∈ lw_tbl := t4 (List.mem_of_getElem? (i := 102) rfl)
set_option maxRecDepth 20000 in
theorem ml_L_119 : Cond.methodLink RL 119 yL_about ∈ lw_tbl := t3 (List.mem_of_getElem? (i := 47) rfl)
set_option maxRecDepth 20000 in
theorem ml_L_121 : Cond.methodLink RL 121 yX5_about ∈ lw_tbl := t4 (List.mem_of_getElem? (i := 110) rfl)
set_option maxRecDepth 20000 in
theorem ml_L_122 : Cond.methodLink RL 122 yL_row ∈ lw_tbl := t3 (List.mem_of_getElem? (i := 51) rfl)
set_option maxRecDepth 20000 in
theorem ml_L_124 : Cond.methodLink RL 124 yX5_row ∈ lw_tbl := t4 (List.mem_of_getElem? (i := 146) rfl)
set_option maxRecDepth 20000 in
theorem ml_L_125 : Cond.methodLink RL 125 yL_dodges ∈ lw_tbl := t3 (List.mem_of_getElem? (i := 69) rfl)
set_option maxRecDepth 20000 in
theorem ml_L_127 : Cond.methodLink RL 127 yX5_dodges ∈ lw_tbl := t4 (List.mem_of_getElem? (i := 150) rfl)
set_option maxRecDepth 20000 in
theorem ml_L_128 : Cond.methodLink RL 128 yL_ring ∈ lw_tbl := t3 (List.mem_of_getElem? (i := 73) rfl)
set_option maxRecDepth 20000 in
theorem ml_L_130 : Cond.methodLink RL 130 yX5_ring ∈ lw_tbl := t4 (List.mem_of_getElem? (i := 154) rfl)
set_option maxRecDepth 20000 in
theorem ml_L_131 : Cond.methodLink RL 131 yL_would ∈ lw_tbl := t3 (List.mem_of_getElem? (i := 109) rfl)
set_option maxRecDepth 20000 in
theorem ml_L_133 : Cond.methodLink RL 133 yX5_would ∈ lw_tbl := t4 (List.mem_of_getElem? (i := 171) rfl)
set_option maxRecDepth 20000 in
theorem ml_L_134 : Cond.methodLink RL 134 yL_advise ∈ lw_tbl := t3 (List.mem_of_getElem? (i := 120) rfl)
set_option maxRecDepth 20000 in
theorem ml_L_136 : Cond.methodLink RL 136 yX5_advise ∈ lw_tbl := t4 (List.mem_of_getElem? (i := 183) rfl)
set_option maxRecDepth 20000 in
theorem ml_L_137 : Cond.methodLink RL 137 yL_count ∈ lw_tbl := t3 (List.mem_of_getElem? (i := 127) rfl)
set_option maxRecDepth 20000 in
theorem ml_L_139 : Cond.methodLink RL 139 yX5_count ∈ lw_tbl := t4 (List.mem_of_getElem? (i := 187) rfl)
set_option maxRecDepth 20000 in
theorem ml_L_140 : Cond.methodLink RL 140 yL_pass ∈ lw_tbl := t3 (List.mem_of_getElem? (i := 131) rfl)
set_option maxRecDepth 20000 in
theorem ml_L_142 : Cond.methodLink RL 142 yX5_pass ∈ lw_tbl := t4 (List.mem_of_getElem? (i := 195) rfl)
set_option maxRecDepth 20000 in
theorem ml_L_143 : Cond.methodLink RL 143 yL_foresee ∈ lw_tbl := t3 (List.mem_of_getElem? (i := 151) rfl)
set_option maxRecDepth 20000 in
theorem ml_L_145 : Cond.methodLink RL 145 yX5_foresee ∈ lw_tbl := t4 (List.mem_of_getElem? (i := 215) rfl)
set_option maxRecDepth 20000 in
theorem ml_L_146 : Cond.methodLink RL 146 yX3_mean ∈ lw_tbl := t1 (List.mem_of_getElem? (i := 148) rfl)
set_option maxRecDepth 20000 in
theorem ml_L_150 : Cond.methodLink RL 150 yX5_mean ∈ lw_tbl := t4 (List.mem_of_getElem? (i := 219) rfl)
set_option maxRecDepth 20000 in
theorem ml_L_151 : Cond.methodLink RL 151 yX3_digest ∈ lw_tbl := t1 (List.mem_of_getElem? (i := 172) rfl)
set_option maxRecDepth 20000 in
theorem ml_L_155 : Cond.methodLink RL 155 yX5_digest ∈ lw_tbl := t4 (List.mem_of_getElem? (i := 223) rfl)
set_option maxRecDepth 20000 in
theorem w_arrI : Cond.arrayClass .int ∈ lw_tbl := t1 (List.mem_of_getElem? (i := 66) rfl)
set_option maxRecDepth 20000 in
theorem w_arrJ : Cond.arrayClass .long ∈ lw_tbl := t1 (List.mem_of_getElem? (i := 92) rfl)
set_option maxRecDepth 20000 in
theorem w_oiI : Cond.instanceMethod Lib.objectInit ∈ lw_tbl := t1 (List.mem_of_getElem? (i := 22) rfl)
set_option maxRecDepth 20000 in
theorem w_oiC : Cond.code Lib.objectInit ⟨#[0xb1]⟩ 1 none ∈ lw_tbl := t1 (List.mem_of_getElem? (i := 23) rfl)
set_option maxRecDepth 20000 in
theorem w_mmaxS : Cond.static Lib.Math.max.name ∈ lw_tbl := t2 (List.mem_of_getElem? (i := 170) rfl)
set_option maxRecDepth 20000 in
theorem w_mmaxC : Cond.code Lib.Math.max.name Lib.Math.max.code 2 (some .int) ∈ lw_tbl := t2 (List.mem_of_getElem? (i := 171) rfl)
set_option maxRecDepth 20000 in
theorem w_mminS : Cond.static Lib.Math.min.name ∈ lw_tbl := t2 (List.mem_of_getElem? (i := 167) rfl)
set_option maxRecDepth 20000 in
theorem w_mminC : Cond.code Lib.Math.min.name Lib.Math.min.code 2 (some .int) ∈ lw_tbl := t2 (List.mem_of_getElem? (i := 168) rfl)
set_option maxRecDepth 20000 in
theorem w_mI : Cond.initialized "java/lang/Math" ∈ lw_tbl := t1 (List.mem_of_getElem? (i := 13) rfl)
set_option maxRecDepth 20000 in
theorem w_acN : Cond.native arraycopyName ∈ lw_tbl := t2 (List.mem_of_getElem? (i := 69) rfl)
set_option maxRecDepth 20000 in
theorem w_acS : Cond.static arraycopyName ∈ lw_tbl := t2 (List.mem_of_getElem? (i := 68) rfl)
set_option maxRecDepth 20000 in
theorem w_acI : Cond.initialized "java/lang/System" ∈ lw_tbl := t1 (List.mem_of_getElem? (i := 14) rfl)
def mX3_init : gw_M := (yX3_init, cX3_init, 2, none, 2, 41)
set_option maxRecDepth 20000 in
theorem cb_X3_init : CLb mX3_init 0 := ⟨t1 (List.mem_of_getElem? (i := 20) rfl), t1 (List.mem_of_getElem? (i := 1) rfl), ⟨by decide +kernel, by decide +kernel⟩, by decide +kernel⟩
set_option maxRecDepth 20000 in
theorem im_X3_init : Cond.instanceMethod yX3_init ∈ lw_tbl := t1 (List.mem_of_getElem? (i := 19) rfl)
theorem pn_X3_init : plainName mX3_init.1.cls = true := by decide +kernel
def mX3_ringer : gw_M := (yX3_ringer, cX3_ringer, 4, (some .int), 7, 112)
set_option maxRecDepth 20000 in
theorem cb_X3_ringer : CLb mX3_ringer 3 := ⟨t2 (List.mem_of_getElem? (i := 115) rfl), t1 (List.mem_of_getElem? (i := 1) rfl), ⟨by decide +kernel, by decide +kernel⟩, by decide +kernel⟩
set_option maxRecDepth 20000 in
theorem im_X3_ringer : Cond.instanceMethod yX3_ringer ∈ lw_tbl := t2 (List.mem_of_getElem? (i := 113) rfl)
set_option maxRecDepth 20000 in
theorem se_X3_ringer : Cond.selects yX3_ringer.cls yX3_ringer yX3_ringer ∈ lw_tbl := t2 (List.mem_of_getElem? (i := 114) rfl)
theorem pn_X3_ringer : plainName mX3_ringer.1.cls = true := by decide +kernel
def mX3_vote : gw_M := (yX3_vote, cX3_vote, 3, (some .int), 7, 112)
set_option maxRecDepth 20000 in
theorem cb_X3_vote : CLb mX3_vote 2 := ⟨t2 (List.mem_of_getElem? (i := 161) rfl), t1 (List.mem_of_getElem? (i := 1) rfl), ⟨by decide +kernel, by decide +kernel⟩, by decide +kernel⟩
set_option maxRecDepth 20000 in
theorem im_X3_vote : Cond.instanceMethod yX3_vote ∈ lw_tbl := t2 (List.mem_of_getElem? (i := 159) rfl)
set_option maxRecDepth 20000 in
theorem se_X3_vote : Cond.selects yX3_vote.cls yX3_vote yX3_vote ∈ lw_tbl := t2 (List.mem_of_getElem? (i := 160) rfl)
theorem pn_X3_vote : plainName mX3_vote.1.cls = true := by decide +kernel
def mX3_seat : gw_M := (yX3_seat, cX3_seat, 6, (some .int), 8, 132)
set_option maxRecDepth 20000 in
theorem cb_X3_seat : CLb mX3_seat 3 := ⟨t2 (List.mem_of_getElem? (i := 178) rfl), t1 (List.mem_of_getElem? (i := 1) rfl), ⟨by decide +kernel, by decide +kernel⟩, by decide +kernel⟩
set_option maxRecDepth 20000 in
theorem im_X3_seat : Cond.instanceMethod yX3_seat ∈ lw_tbl := t2 (List.mem_of_getElem? (i := 176) rfl)
set_option maxRecDepth 20000 in
theorem se_X3_seat : Cond.selects yX3_seat.cls yX3_seat yX3_seat ∈ lw_tbl := t2 (List.mem_of_getElem? (i := 177) rfl)
theorem pn_X3_seat : plainName mX3_seat.1.cls = true := by decide +kernel
def mX3_elect : gw_M := (yX3_elect, cX3_elect, 2, (some .int), 7, 111)
set_option maxRecDepth 20000 in
theorem cb_X3_elect : CLb mX3_elect 1 := ⟨t2 (List.mem_of_getElem? (i := 185) rfl), t1 (List.mem_of_getElem? (i := 1) rfl), ⟨by decide +kernel, by decide +kernel⟩, by decide +kernel⟩
set_option maxRecDepth 20000 in
theorem im_X3_elect : Cond.instanceMethod yX3_elect ∈ lw_tbl := t2 (List.mem_of_getElem? (i := 183) rfl)
set_option maxRecDepth 20000 in
theorem se_X3_elect : Cond.selects yX3_elect.cls yX3_elect yX3_elect ∈ lw_tbl := t2 (List.mem_of_getElem? (i := 184) rfl)
theorem pn_X3_elect : plainName mX3_elect.1.cls = true := by decide +kernel
def mX3_put : gw_M := (yX3_put, cX3_put, 5, (some .int), 8, 132)
set_option maxRecDepth 20000 in
theorem cb_X3_put : CLb mX3_put 3 := ⟨t2 (List.mem_of_getElem? (i := 193) rfl), t1 (List.mem_of_getElem? (i := 1) rfl), ⟨by decide +kernel, by decide +kernel⟩, by decide +kernel⟩
set_option maxRecDepth 20000 in
theorem im_X3_put : Cond.instanceMethod yX3_put ∈ lw_tbl := t2 (List.mem_of_getElem? (i := 191) rfl)
set_option maxRecDepth 20000 in
theorem se_X3_put : Cond.selects yX3_put.cls yX3_put yX3_put ∈ lw_tbl := t2 (List.mem_of_getElem? (i := 192) rfl)
theorem pn_X3_put : plainName mX3_put.1.cls = true := by decide +kernel
def mX3_leave : gw_M := (yX3_leave, cX3_leave, 3, (some .int), 7, 111)
set_option maxRecDepth 20000 in
theorem cb_X3_leave : CLb mX3_leave 1 := ⟨t2 (List.mem_of_getElem? (i := 203) rfl), t1 (List.mem_of_getElem? (i := 1) rfl), ⟨by decide +kernel, by decide +kernel⟩, by decide +kernel⟩
set_option maxRecDepth 20000 in
theorem im_X3_leave : Cond.instanceMethod yX3_leave ∈ lw_tbl := t2 (List.mem_of_getElem? (i := 201) rfl)
set_option maxRecDepth 20000 in
theorem se_X3_leave : Cond.selects yX3_leave.cls yX3_leave yX3_leave ∈ lw_tbl := t2 (List.mem_of_getElem? (i := 202) rfl)
theorem pn_X3_leave : plainName mX3_leave.1.cls = true := by decide +kernel
def mX3_told : gw_M := (yX3_told, cX3_told, 3, (some .int), 7, 111)
set_option maxRecDepth 20000 in
theorem cb_X3_told : CLb mX3_told 2 := ⟨t2 (List.mem_of_getElem? (i := 32) rfl), t1 (List.mem_of_getElem? (i := 1) rfl), ⟨by decide +kernel, by decide +kernel⟩, by decide +kernel⟩
set_option maxRecDepth 20000 in
theorem im_X3_told : Cond.instanceMethod yX3_told ∈ lw_tbl := t2 (List.mem_of_getElem? (i := 30) rfl)
set_option maxRecDepth 20000 in
theorem se_X3_told : Cond.selects yX3_told.cls yX3_told yX3_told ∈ lw_tbl := t2 (List.mem_of_getElem? (i := 31) rfl)
theorem pn_X3_told : plainName mX3_told.1.cls = true := by decide +kernel
def mX3_bell : gw_M := (yX3_bell, cX3_bell, 5, (some .int), 8, 132)
set_option maxRecDepth 20000 in
theorem cb_X3_bell : CLb mX3_bell 3 := ⟨t2 (List.mem_of_getElem? (i := 52) rfl), t1 (List.mem_of_getElem? (i := 1) rfl), ⟨by decide +kernel, by decide +kernel⟩, by decide +kernel⟩
set_option maxRecDepth 20000 in
theorem im_X3_bell : Cond.instanceMethod yX3_bell ∈ lw_tbl := t2 (List.mem_of_getElem? (i := 50) rfl)
set_option maxRecDepth 20000 in
theorem se_X3_bell : Cond.selects yX3_bell.cls yX3_bell yX3_bell ∈ lw_tbl := t2 (List.mem_of_getElem? (i := 51) rfl)
theorem pn_X3_bell : plainName mX3_bell.1.cls = true := by decide +kernel
def mX3_method : gw_M := (yX3_method, cX3_method, 1, (some .int), 6, 90)
set_option maxRecDepth 20000 in
theorem cb_X3_method : CLb mX3_method 0 := ⟨t2 (List.mem_of_getElem? (i := 221) rfl), t1 (List.mem_of_getElem? (i := 1) rfl), ⟨by decide +kernel, by decide +kernel⟩, by decide +kernel⟩
set_option maxRecDepth 20000 in
theorem im_X3_method : Cond.instanceMethod yX3_method ∈ lw_tbl := t2 (List.mem_of_getElem? (i := 219) rfl)
set_option maxRecDepth 20000 in
theorem se_X3_method : Cond.selects yX3_method.cls yX3_method yX3_method ∈ lw_tbl := t2 (List.mem_of_getElem? (i := 220) rfl)
theorem pn_X3_method : plainName mX3_method.1.cls = true := by decide +kernel
def mX3_add : gw_M := (yX3_add, cX3_add, 4, (some .int), 8, 132)
set_option maxRecDepth 20000 in
theorem cb_X3_add : CLb mX3_add 2 := ⟨t2 (List.mem_of_getElem? (i := 229) rfl), t1 (List.mem_of_getElem? (i := 1) rfl), ⟨by decide +kernel, by decide +kernel⟩, by decide +kernel⟩
set_option maxRecDepth 20000 in
theorem im_X3_add : Cond.instanceMethod yX3_add ∈ lw_tbl := t2 (List.mem_of_getElem? (i := 227) rfl)
set_option maxRecDepth 20000 in
theorem se_X3_add : Cond.selects yX3_add.cls yX3_add yX3_add ∈ lw_tbl := t2 (List.mem_of_getElem? (i := 228) rfl)
theorem pn_X3_add : plainName mX3_add.1.cls = true := by decide +kernel
def mX3_about : gw_M := (yX3_about, cX3_about, 4, (some .int), 8, 132)
set_option maxRecDepth 20000 in
theorem cb_X3_about : CLb mX3_about 2 := ⟨t2 (List.mem_of_getElem? (i := 85) rfl), t1 (List.mem_of_getElem? (i := 1) rfl), ⟨by decide +kernel, by decide +kernel⟩, by decide +kernel⟩
set_option maxRecDepth 20000 in
theorem im_X3_about : Cond.instanceMethod yX3_about ∈ lw_tbl := t2 (List.mem_of_getElem? (i := 83) rfl)
set_option maxRecDepth 20000 in
theorem se_X3_about : Cond.selects yX3_about.cls yX3_about yX3_about ∈ lw_tbl := t2 (List.mem_of_getElem? (i := 84) rfl)
theorem pn_X3_about : plainName mX3_about.1.cls = true := by decide +kernel
def mX3_row : gw_M := (yX3_row, cX3_row, 6, (some .int), 8, 132)
set_option maxRecDepth 20000 in
theorem cb_X3_row : CLb mX3_row 2 := ⟨t3 (List.mem_of_getElem? (i := 57) rfl), t1 (List.mem_of_getElem? (i := 1) rfl), ⟨by decide +kernel, by decide +kernel⟩, by decide +kernel⟩
set_option maxRecDepth 20000 in
theorem im_X3_row : Cond.instanceMethod yX3_row ∈ lw_tbl := t3 (List.mem_of_getElem? (i := 55) rfl)
set_option maxRecDepth 20000 in
theorem se_X3_row : Cond.selects yX3_row.cls yX3_row yX3_row ∈ lw_tbl := t3 (List.mem_of_getElem? (i := 56) rfl)
theorem pn_X3_row : plainName mX3_row.1.cls = true := by decide +kernel
def mX3_dodges : gw_M := (yX3_dodges, cX3_dodges, 4, (some .int), 8, 132)
set_option maxRecDepth 20000 in
theorem cb_X3_dodges : CLb mX3_dodges 2 := ⟨t2 (List.mem_of_getElem? (i := 105) rfl), t1 (List.mem_of_getElem? (i := 1) rfl), ⟨by decide +kernel, by decide +kernel⟩, by decide +kernel⟩
set_option maxRecDepth 20000 in
theorem im_X3_dodges : Cond.instanceMethod yX3_dodges ∈ lw_tbl := t2 (List.mem_of_getElem? (i := 103) rfl)
set_option maxRecDepth 20000 in
theorem se_X3_dodges : Cond.selects yX3_dodges.cls yX3_dodges yX3_dodges ∈ lw_tbl := t2 (List.mem_of_getElem? (i := 104) rfl)
theorem pn_X3_dodges : plainName mX3_dodges.1.cls = true := by decide +kernel
def mX3_ring : gw_M := (yX3_ring, cX3_ring, 6, (some .int), 8, 132)
set_option maxRecDepth 20000 in
theorem cb_X3_ring : CLb mX3_ring 3 := ⟨t3 (List.mem_of_getElem? (i := 79) rfl), t1 (List.mem_of_getElem? (i := 1) rfl), ⟨by decide +kernel, by decide +kernel⟩, by decide +kernel⟩
set_option maxRecDepth 20000 in
theorem im_X3_ring : Cond.instanceMethod yX3_ring ∈ lw_tbl := t3 (List.mem_of_getElem? (i := 77) rfl)
set_option maxRecDepth 20000 in
theorem se_X3_ring : Cond.selects yX3_ring.cls yX3_ring yX3_ring ∈ lw_tbl := t3 (List.mem_of_getElem? (i := 78) rfl)
theorem pn_X3_ring : plainName mX3_ring.1.cls = true := by decide +kernel
def mX3_would : gw_M := (yX3_would, cX3_would, 5, (some .int), 8, 132)
set_option maxRecDepth 20000 in
theorem cb_X3_would : CLb mX3_would 3 := ⟨t3 (List.mem_of_getElem? (i := 115) rfl), t1 (List.mem_of_getElem? (i := 1) rfl), ⟨by decide +kernel, by decide +kernel⟩, by decide +kernel⟩
set_option maxRecDepth 20000 in
theorem im_X3_would : Cond.instanceMethod yX3_would ∈ lw_tbl := t3 (List.mem_of_getElem? (i := 113) rfl)
set_option maxRecDepth 20000 in
theorem se_X3_would : Cond.selects yX3_would.cls yX3_would yX3_would ∈ lw_tbl := t3 (List.mem_of_getElem? (i := 114) rfl)
theorem pn_X3_would : plainName mX3_would.1.cls = true := by decide +kernel
def mX3_advise : gw_M := (yX3_advise, cX3_advise, 7, (some .int), 8, 132)
set_option maxRecDepth 20000 in
theorem cb_X3_advise : CLb mX3_advise 1 := ⟨t3 (List.mem_of_getElem? (i := 126) rfl), t1 (List.mem_of_getElem? (i := 1) rfl), ⟨by decide +kernel, by decide +kernel⟩, by decide +kernel⟩
set_option maxRecDepth 20000 in
theorem im_X3_advise : Cond.instanceMethod yX3_advise ∈ lw_tbl := t3 (List.mem_of_getElem? (i := 124) rfl)
set_option maxRecDepth 20000 in
theorem se_X3_advise : Cond.selects yX3_advise.cls yX3_advise yX3_advise ∈ lw_tbl := t3 (List.mem_of_getElem? (i := 125) rfl)
theorem pn_X3_advise : plainName mX3_advise.1.cls = true := by decide +kernel
def mX3_count : gw_M := (yX3_count, cX3_count, 2, (some .int), 7, 111)
set_option maxRecDepth 20000 in
theorem cb_X3_count : CLb mX3_count 1 := ⟨t1 (List.mem_of_getElem? (i := 181) rfl), t1 (List.mem_of_getElem? (i := 1) rfl), ⟨by decide +kernel, by decide +kernel⟩, by decide +kernel⟩
set_option maxRecDepth 20000 in
theorem im_X3_count : Cond.instanceMethod yX3_count ∈ lw_tbl := t1 (List.mem_of_getElem? (i := 179) rfl)
set_option maxRecDepth 20000 in
theorem se_X3_count : Cond.selects yX3_count.cls yX3_count yX3_count ∈ lw_tbl := t1 (List.mem_of_getElem? (i := 180) rfl)
theorem pn_X3_count : plainName mX3_count.1.cls = true := by decide +kernel
def mX3_pass : gw_M := (yX3_pass, cX3_pass, 2, (some .int), 7, 112)
set_option maxRecDepth 20000 in
theorem cb_X3_pass : CLb mX3_pass 1 := ⟨t3 (List.mem_of_getElem? (i := 137) rfl), t1 (List.mem_of_getElem? (i := 1) rfl), ⟨by decide +kernel, by decide +kernel⟩, by decide +kernel⟩
set_option maxRecDepth 20000 in
theorem im_X3_pass : Cond.instanceMethod yX3_pass ∈ lw_tbl := t3 (List.mem_of_getElem? (i := 135) rfl)
set_option maxRecDepth 20000 in
theorem se_X3_pass : Cond.selects yX3_pass.cls yX3_pass yX3_pass ∈ lw_tbl := t3 (List.mem_of_getElem? (i := 136) rfl)
theorem pn_X3_pass : plainName mX3_pass.1.cls = true := by decide +kernel
def mX3_foresee : gw_M := (yX3_foresee, cX3_foresee, 4, (some .int), 7, 112)
set_option maxRecDepth 20000 in
theorem cb_X3_foresee : CLb mX3_foresee 3 := ⟨t3 (List.mem_of_getElem? (i := 157) rfl), t1 (List.mem_of_getElem? (i := 1) rfl), ⟨by decide +kernel, by decide +kernel⟩, by decide +kernel⟩
set_option maxRecDepth 20000 in
theorem im_X3_foresee : Cond.instanceMethod yX3_foresee ∈ lw_tbl := t3 (List.mem_of_getElem? (i := 155) rfl)
set_option maxRecDepth 20000 in
theorem se_X3_foresee : Cond.selects yX3_foresee.cls yX3_foresee yX3_foresee ∈ lw_tbl := t3 (List.mem_of_getElem? (i := 156) rfl)
theorem pn_X3_foresee : plainName mX3_foresee.1.cls = true := by decide +kernel
def mX3_mean : gw_M := (yX3_mean, cX3_mean, 2, (some .double), 4, 87)
set_option maxRecDepth 20000 in
theorem cb_X3_mean : CLb mX3_mean 0 := ⟨t1 (List.mem_of_getElem? (i := 151) rfl), t1 (List.mem_of_getElem? (i := 1) rfl), ⟨by decide +kernel, by decide +kernel⟩, by decide +kernel⟩
set_option maxRecDepth 20000 in
theorem im_X3_mean : Cond.instanceMethod yX3_mean ∈ lw_tbl := t1 (List.mem_of_getElem? (i := 149) rfl)
set_option maxRecDepth 20000 in
theorem se_X3_mean : Cond.selects yX3_mean.cls yX3_mean yX3_mean ∈ lw_tbl := t1 (List.mem_of_getElem? (i := 150) rfl)
theorem pn_X3_mean : plainName mX3_mean.1.cls = true := by decide +kernel
def mX3_digest : gw_M := (yX3_digest, cX3_digest, 4, (some .long), 10, 183)
set_option maxRecDepth 20000 in
theorem cb_X3_digest : CLb mX3_digest 0 := ⟨t1 (List.mem_of_getElem? (i := 175) rfl), t1 (List.mem_of_getElem? (i := 1) rfl), ⟨by decide +kernel, by decide +kernel⟩, by decide +kernel⟩
set_option maxRecDepth 20000 in
theorem im_X3_digest : Cond.instanceMethod yX3_digest ∈ lw_tbl := t1 (List.mem_of_getElem? (i := 173) rfl)
set_option maxRecDepth 20000 in
theorem se_X3_digest : Cond.selects yX3_digest.cls yX3_digest yX3_digest ∈ lw_tbl := t1 (List.mem_of_getElem? (i := 174) rfl)
theorem pn_X3_digest : plainName mX3_digest.1.cls = true := by decide +kernel
def mX3_digestRingers : gw_M := (yX3_digestRingers, cX3_digestRingers, 7, (some .long), 8, 133)
set_option maxRecDepth 20000 in
theorem cb_X3_digestRingers : CLb mX3_digestRingers 1 := ⟨t2 (List.mem_of_getElem? (i := 28) rfl), t1 (List.mem_of_getElem? (i := 1) rfl), ⟨by decide +kernel, by decide +kernel⟩, by decide +kernel⟩
set_option maxRecDepth 20000 in
theorem im_X3_digestRingers : Cond.instanceMethod yX3_digestRingers ∈ lw_tbl := t2 (List.mem_of_getElem? (i := 27) rfl)
set_option maxRecDepth 20000 in
theorem se_X3_digestRingers : Cond.selects yX3_digestRingers.cls yX3_digestRingers yX3_digestRingers ∈ lw_tbl := List.mem_append_left _ (List.mem_of_getElem? (i := 1) rfl)
theorem pn_X3_digestRingers : plainName mX3_digestRingers.1.cls = true := by decide +kernel
def mX3_digestBands : gw_M := (yX3_digestBands, cX3_digestBands, 8, (some .long), 9, 156)
set_option maxRecDepth 20000 in
theorem cb_X3_digestBands : CLb mX3_digestBands 1 := ⟨t2 (List.mem_of_getElem? (i := 48) rfl), t1 (List.mem_of_getElem? (i := 1) rfl), ⟨by decide +kernel, by decide +kernel⟩, by decide +kernel⟩
set_option maxRecDepth 20000 in
theorem im_X3_digestBands : Cond.instanceMethod yX3_digestBands ∈ lw_tbl := t2 (List.mem_of_getElem? (i := 47) rfl)
set_option maxRecDepth 20000 in
theorem se_X3_digestBands : Cond.selects yX3_digestBands.cls yX3_digestBands yX3_digestBands ∈ lw_tbl := List.mem_append_left _ (List.mem_of_getElem? (i := 2) rfl)
theorem pn_X3_digestBands : plainName mX3_digestBands.1.cls = true := by decide +kernel
def mX3_digestMethods : gw_M := (yX3_digestMethods, cX3_digestMethods, 8, (some .long), 9, 155)
set_option maxRecDepth 20000 in
theorem cb_X3_digestMethods : CLb mX3_digestMethods 1 := ⟨t2 (List.mem_of_getElem? (i := 81) rfl), t1 (List.mem_of_getElem? (i := 1) rfl), ⟨by decide +kernel, by decide +kernel⟩, by decide +kernel⟩
set_option maxRecDepth 20000 in
theorem im_X3_digestMethods : Cond.instanceMethod yX3_digestMethods ∈ lw_tbl := t2 (List.mem_of_getElem? (i := 80) rfl)
set_option maxRecDepth 20000 in
theorem se_X3_digestMethods : Cond.selects yX3_digestMethods.cls yX3_digestMethods yX3_digestMethods ∈ lw_tbl := List.mem_append_left _ (List.mem_of_getElem? (i := 4) rfl)
theorem pn_X3_digestMethods : plainName mX3_digestMethods.1.cls = true := by decide +kernel
def mX3_canBeRung : gw_M := (yX3_canBeRung, cX3_canBeRung, 3, (some .boolean), 3, 65)
set_option maxRecDepth 20000 in
theorem cb_X3_canBeRung : CLb mX3_canBeRung 2 := ⟨t3 (List.mem_of_getElem? (i := 83) rfl), t1 (List.mem_of_getElem? (i := 1) rfl), ⟨by decide +kernel, by decide +kernel⟩, by decide +kernel⟩
set_option maxRecDepth 20000 in
theorem im_X3_canBeRung : Cond.instanceMethod yX3_canBeRung ∈ lw_tbl := t3 (List.mem_of_getElem? (i := 82) rfl)
set_option maxRecDepth 20000 in
theorem se_X3_canBeRung : Cond.selects yX3_canBeRung.cls yX3_canBeRung yX3_canBeRung ∈ lw_tbl := List.mem_append_left _ (List.mem_of_getElem? (i := 10) rfl)
theorem pn_X3_canBeRung : plainName mX3_canBeRung.1.cls = true := by decide +kernel
def mX3_votesBrought : gw_M := (yX3_votesBrought, cX3_votesBrought, 4, (some .int), 4, 93)
set_option maxRecDepth 20000 in
theorem cb_X3_votesBrought : CLb mX3_votesBrought 3 := ⟨t3 (List.mem_of_getElem? (i := 119) rfl), t1 (List.mem_of_getElem? (i := 1) rfl), ⟨by decide +kernel, by decide +kernel⟩, by decide +kernel⟩
set_option maxRecDepth 20000 in
theorem im_X3_votesBrought : Cond.instanceMethod yX3_votesBrought ∈ lw_tbl := t3 (List.mem_of_getElem? (i := 118) rfl)
set_option maxRecDepth 20000 in
theorem se_X3_votesBrought : Cond.selects yX3_votesBrought.cls yX3_votesBrought yX3_votesBrought ∈ lw_tbl := List.mem_append_left _ (List.mem_of_getElem? (i := 13) rfl)
theorem pn_X3_votesBrought : plainName mX3_votesBrought.1.cls = true := by decide +kernel
def mX3_listNumbered : gw_M := (yX3_listNumbered, cX3_listNumbered, 2, (some (.object "BellRoster$ChangeList")), 7, 111)
set_option maxRecDepth 20000 in
theorem cb_X3_listNumbered : CLb mX3_listNumbered 1 := ⟨t2 (List.mem_of_getElem? (i := 89) rfl), t1 (List.mem_of_getElem? (i := 1) rfl), ⟨by decide +kernel, by decide +kernel⟩, by decide +kernel⟩
set_option maxRecDepth 20000 in
theorem im_X3_listNumbered : Cond.instanceMethod yX3_listNumbered ∈ lw_tbl := t2 (List.mem_of_getElem? (i := 88) rfl)
set_option maxRecDepth 20000 in
theorem se_X3_listNumbered : Cond.selects yX3_listNumbered.cls yX3_listNumbered yX3_listNumbered ∈ lw_tbl := List.mem_append_left _ (List.mem_of_getElem? (i := 5) rfl)
theorem pn_X3_listNumbered : plainName mX3_listNumbered.1.cls = true := by decide +kernel
def mX3_seatNumber : gw_M := (yX3_seatNumber, cX3_seatNumber, 2, (some .int), 0, 0)
set_option maxRecDepth 20000 in
theorem cb_X3_seatNumber : CLb mX3_seatNumber 2 := ⟨t2 (List.mem_of_getElem? (i := 58) rfl), t1 (List.mem_of_getElem? (i := 1) rfl), ⟨by decide +kernel, by decide +kernel⟩, by decide +kernel⟩
set_option maxRecDepth 20000 in
theorem st_X3_seatNumber : Cond.static yX3_seatNumber ∈ lw_tbl := t2 (List.mem_of_getElem? (i := 57) rfl)
theorem pn_X3_seatNumber : plainName mX3_seatNumber.1.cls = true := by decide +kernel
def mX3_requireSeat : gw_M := (yX3_requireSeat, cX3_requireSeat, 2, none, 7, 111)
set_option maxRecDepth 20000 in
theorem cb_X3_requireSeat : CLb mX3_requireSeat 2 := ⟨t2 (List.mem_of_getElem? (i := 55) rfl), t1 (List.mem_of_getElem? (i := 1) rfl), ⟨by decide +kernel, by decide +kernel⟩, by decide +kernel⟩
set_option maxRecDepth 20000 in
theorem st_X3_requireSeat : Cond.static yX3_requireSeat ∈ lw_tbl := t2 (List.mem_of_getElem? (i := 54) rfl)
theorem pn_X3_requireSeat : plainName mX3_requireSeat.1.cls = true := by decide +kernel
def mX3_requireIndex : gw_M := (yX3_requireIndex, cX3_requireIndex, 2, none, 6, 90)
set_option maxRecDepth 20000 in
theorem cb_X3_requireIndex : CLb mX3_requireIndex 2 := ⟨t1 (List.mem_of_getElem? (i := 184) rfl), t1 (List.mem_of_getElem? (i := 1) rfl), ⟨by decide +kernel, by decide +kernel⟩, by decide +kernel⟩
set_option maxRecDepth 20000 in
theorem st_X3_requireIndex : Cond.static yX3_requireIndex ∈ lw_tbl := t1 (List.mem_of_getElem? (i := 183) rfl)
theorem pn_X3_requireIndex : plainName mX3_requireIndex.1.cls = true := by decide +kernel
def mX3_requireWithin : gw_M := (yX3_requireWithin, cX3_requireWithin, 3, none, 6, 90)
set_option maxRecDepth 20000 in
theorem cb_X3_requireWithin : CLb mX3_requireWithin 3 := ⟨t2 (List.mem_of_getElem? (i := 118) rfl), t1 (List.mem_of_getElem? (i := 1) rfl), ⟨by decide +kernel, by decide +kernel⟩, by decide +kernel⟩
set_option maxRecDepth 20000 in
theorem st_X3_requireWithin : Cond.static yX3_requireWithin ∈ lw_tbl := t2 (List.mem_of_getElem? (i := 117) rfl)
theorem pn_X3_requireWithin : plainName mX3_requireWithin.1.cls = true := by decide +kernel
def mX5_init : gw_M := (yX5_init, cX5_init, 2, none, 2, 41)
set_option maxRecDepth 20000 in
theorem cb_X5_init : CLb mX5_init 0 := ⟨t3 (List.mem_of_getElem? (i := 162) rfl), t1 (List.mem_of_getElem? (i := 5) rfl), ⟨by decide +kernel, by decide +kernel⟩, by decide +kernel⟩
set_option maxRecDepth 20000 in
theorem im_X5_init : Cond.instanceMethod yX5_init ∈ lw_tbl := t3 (List.mem_of_getElem? (i := 161) rfl)
theorem pn_X5_init : plainName mX5_init.1.cls = true := by decide +kernel
def mX5_thrown : gw_M := (yX5_thrown, cX5_thrown, 1, (some .int), 0, 0)
set_option maxRecDepth 20000 in
theorem cb_X5_thrown : CLb mX5_thrown 0 := ⟨t4 (List.mem_of_getElem? (i := 20) rfl), t1 (List.mem_of_getElem? (i := 5) rfl), ⟨by decide +kernel, by decide +kernel⟩, by decide +kernel⟩
set_option maxRecDepth 20000 in
theorem im_X5_thrown : Cond.instanceMethod yX5_thrown ∈ lw_tbl := t4 (List.mem_of_getElem? (i := 18) rfl)
set_option maxRecDepth 20000 in
theorem se_X5_thrown : Cond.selects yX5_thrown.cls yX5_thrown yX5_thrown ∈ lw_tbl := t4 (List.mem_of_getElem? (i := 19) rfl)
theorem pn_X5_thrown : plainName mX5_thrown.1.cls = true := by decide +kernel
def mX5_no : gw_M := (yX5_no, cX5_no, 2, (some .int), 0, 0)
set_option maxRecDepth 20000 in
theorem cb_X5_no : CLb mX5_no 1 := ⟨t4 (List.mem_of_getElem? (i := 31) rfl), t1 (List.mem_of_getElem? (i := 5) rfl), ⟨by decide +kernel, by decide +kernel⟩, by decide +kernel⟩
set_option maxRecDepth 20000 in
theorem im_X5_no : Cond.instanceMethod yX5_no ∈ lw_tbl := t4 (List.mem_of_getElem? (i := 30) rfl)
set_option maxRecDepth 20000 in
theorem se_X5_no : Cond.selects yX5_no.cls yX5_no yX5_no ∈ lw_tbl := List.mem_append_left _ (List.mem_of_getElem? (i := 15) rfl)
theorem pn_X5_no : plainName mX5_no.1.cls = true := by decide +kernel
def mX5_isIn : gw_M := (yX5_isIn, cX5_isIn, 3, (some .boolean), 0, 0)
set_option maxRecDepth 20000 in
theorem cb_X5_isIn : CLb mX5_isIn 3 := ⟨t4 (List.mem_of_getElem? (i := 27) rfl), t1 (List.mem_of_getElem? (i := 5) rfl), ⟨by decide +kernel, by decide +kernel⟩, by decide +kernel⟩
set_option maxRecDepth 20000 in
theorem st_X5_isIn : Cond.static yX5_isIn ∈ lw_tbl := t4 (List.mem_of_getElem? (i := 26) rfl)
theorem pn_X5_isIn : plainName mX5_isIn.1.cls = true := by decide +kernel
def mX5_isRinger : gw_M := (yX5_isRinger, cX5_isRinger, 2, (some .boolean), 1, 22)
set_option maxRecDepth 20000 in
theorem cb_X5_isRinger : CLb mX5_isRinger 1 := ⟨t4 (List.mem_of_getElem? (i := 39) rfl), t1 (List.mem_of_getElem? (i := 5) rfl), ⟨by decide +kernel, by decide +kernel⟩, by decide +kernel⟩
set_option maxRecDepth 20000 in
theorem im_X5_isRinger : Cond.instanceMethod yX5_isRinger ∈ lw_tbl := t4 (List.mem_of_getElem? (i := 38) rfl)
set_option maxRecDepth 20000 in
theorem se_X5_isRinger : Cond.selects yX5_isRinger.cls yX5_isRinger yX5_isRinger ∈ lw_tbl := List.mem_append_left _ (List.mem_of_getElem? (i := 16) rfl)
theorem pn_X5_isRinger : plainName mX5_isRinger.1.cls = true := by decide +kernel
def mX5_isSeat : gw_M := (yX5_isSeat, cX5_isSeat, 2, (some .boolean), 1, 22)
set_option maxRecDepth 20000 in
theorem cb_X5_isSeat : CLb mX5_isSeat 2 := ⟨t4 (List.mem_of_getElem? (i := 48) rfl), t1 (List.mem_of_getElem? (i := 5) rfl), ⟨by decide +kernel, by decide +kernel⟩, by decide +kernel⟩
set_option maxRecDepth 20000 in
theorem st_X5_isSeat : Cond.static yX5_isSeat ∈ lw_tbl := t4 (List.mem_of_getElem? (i := 47) rfl)
theorem pn_X5_isSeat : plainName mX5_isSeat.1.cls = true := by decide +kernel
def mX5_isMethod : gw_M := (yX5_isMethod, cX5_isMethod, 2, (some .boolean), 1, 22)
set_option maxRecDepth 20000 in
theorem cb_X5_isMethod : CLb mX5_isMethod 1 := ⟨t4 (List.mem_of_getElem? (i := 109) rfl), t1 (List.mem_of_getElem? (i := 5) rfl), ⟨by decide +kernel, by decide +kernel⟩, by decide +kernel⟩
set_option maxRecDepth 20000 in
theorem im_X5_isMethod : Cond.instanceMethod yX5_isMethod ∈ lw_tbl := t4 (List.mem_of_getElem? (i := 108) rfl)
set_option maxRecDepth 20000 in
theorem se_X5_isMethod : Cond.selects yX5_isMethod.cls yX5_isMethod yX5_isMethod ∈ lw_tbl := List.mem_append_left _ (List.mem_of_getElem? (i := 20) rfl)
theorem pn_X5_isMethod : plainName mX5_isMethod.1.cls = true := by decide +kernel
def mX5_code : gw_M := (yX5_code, cX5_code, 6, (some .int), 0, 0)
set_option maxRecDepth 20000 in
theorem cb_X5_code : CLb mX5_code 0 := ⟨t4 (List.mem_of_getElem? (i := 129) rfl), t1 (List.mem_of_getElem? (i := 5) rfl), ⟨by decide +kernel, by decide +kernel⟩, by decide +kernel⟩
set_option maxRecDepth 20000 in
theorem im_X5_code : Cond.instanceMethod yX5_code ∈ lw_tbl := t4 (List.mem_of_getElem? (i := 128) rfl)
set_option maxRecDepth 20000 in
theorem se_X5_code : Cond.selects yX5_code.cls yX5_code yX5_code ∈ lw_tbl := List.mem_append_left _ (List.mem_of_getElem? (i := 24) rfl)
theorem pn_X5_code : plainName mX5_code.1.cls = true := by decide +kernel
def mX5_walkChanges : gw_M := (yX5_walkChanges, cX5_walkChanges, 8, none, 1, 25)
set_option maxRecDepth 20000 in
theorem cb_X5_walkChanges : CLb mX5_walkChanges 2 := ⟨t4 (List.mem_of_getElem? (i := 125) rfl), t1 (List.mem_of_getElem? (i := 5) rfl), ⟨by decide +kernel, by decide +kernel⟩, by decide +kernel⟩
set_option maxRecDepth 20000 in
theorem im_X5_walkChanges : Cond.instanceMethod yX5_walkChanges ∈ lw_tbl := t4 (List.mem_of_getElem? (i := 124) rfl)
set_option maxRecDepth 20000 in
theorem se_X5_walkChanges : Cond.selects yX5_walkChanges.cls yX5_walkChanges yX5_walkChanges ∈ lw_tbl := List.mem_append_left _ (List.mem_of_getElem? (i := 23) rfl)
theorem pn_X5_walkChanges : plainName mX5_walkChanges.1.cls = true := by decide +kernel
def mX5_walk : gw_M := (yX5_walk, cX5_walk, 3, none, 2, 52)
set_option maxRecDepth 20000 in
theorem cb_X5_walk : CLb mX5_walk 2 := ⟨t4 (List.mem_of_getElem? (i := 121) rfl), t1 (List.mem_of_getElem? (i := 5) rfl), ⟨by decide +kernel, by decide +kernel⟩, by decide +kernel⟩
set_option maxRecDepth 20000 in
theorem im_X5_walk : Cond.instanceMethod yX5_walk ∈ lw_tbl := t4 (List.mem_of_getElem? (i := 120) rfl)
set_option maxRecDepth 20000 in
theorem se_X5_walk : Cond.selects yX5_walk.cls yX5_walk yX5_walk ∈ lw_tbl := List.mem_append_left _ (List.mem_of_getElem? (i := 22) rfl)
theorem pn_X5_walk : plainName mX5_walk.1.cls = true := by decide +kernel
def mX5_untrue : gw_M := (yX5_untrue, cX5_untrue, 3, (some .int), 1, 22)
set_option maxRecDepth 20000 in
theorem cb_X5_untrue : CLb mX5_untrue 0 := ⟨t4 (List.mem_of_getElem? (i := 145) rfl), t1 (List.mem_of_getElem? (i := 5) rfl), ⟨by decide +kernel, by decide +kernel⟩, by decide +kernel⟩
set_option maxRecDepth 20000 in
theorem im_X5_untrue : Cond.instanceMethod yX5_untrue ∈ lw_tbl := t4 (List.mem_of_getElem? (i := 144) rfl)
set_option maxRecDepth 20000 in
theorem se_X5_untrue : Cond.selects yX5_untrue.cls yX5_untrue yX5_untrue ∈ lw_tbl := List.mem_append_left _ (List.mem_of_getElem? (i := 28) rfl)
theorem pn_X5_untrue : plainName mX5_untrue.1.cls = true := by decide +kernel
def mX5_isNew : gw_M := (yX5_isNew, cX5_isNew, 3, (some .boolean), 0, 0)
set_option maxRecDepth 20000 in
theorem cb_X5_isNew : CLb mX5_isNew 1 := ⟨t4 (List.mem_of_getElem? (i := 137) rfl), t1 (List.mem_of_getElem? (i := 5) rfl), ⟨by decide +kernel, by decide +kernel⟩, by decide +kernel⟩
set_option maxRecDepth 20000 in
theorem im_X5_isNew : Cond.instanceMethod yX5_isNew ∈ lw_tbl := t4 (List.mem_of_getElem? (i := 136) rfl)
set_option maxRecDepth 20000 in
theorem se_X5_isNew : Cond.selects yX5_isNew.cls yX5_isNew yX5_isNew ∈ lw_tbl := List.mem_append_left _ (List.mem_of_getElem? (i := 26) rfl)
theorem pn_X5_isNew : plainName mX5_isNew.1.cls = true := by decide +kernel
def mX5_course : gw_M := (yX5_course, cX5_course, 3, (some .int), 3, 74)
set_option maxRecDepth 20000 in
theorem cb_X5_course : CLb mX5_course 1 := ⟨t4 (List.mem_of_getElem? (i := 133) rfl), t1 (List.mem_of_getElem? (i := 5) rfl), ⟨by decide +kernel, by decide +kernel⟩, by decide +kernel⟩
set_option maxRecDepth 20000 in
theorem im_X5_course : Cond.instanceMethod yX5_course ∈ lw_tbl := t4 (List.mem_of_getElem? (i := 132) rfl)
set_option maxRecDepth 20000 in
theorem se_X5_course : Cond.selects yX5_course.cls yX5_course yX5_course ∈ lw_tbl := List.mem_append_left _ (List.mem_of_getElem? (i := 25) rfl)
theorem pn_X5_course : plainName mX5_course.1.cls = true := by decide +kernel
def mX5_dodgesOf : gw_M := (yX5_dodgesOf, cX5_dodgesOf, 4, (some .int), 0, 0)
set_option maxRecDepth 20000 in
theorem cb_X5_dodgesOf : CLb mX5_dodgesOf 1 := ⟨t4 (List.mem_of_getElem? (i := 141) rfl), t1 (List.mem_of_getElem? (i := 5) rfl), ⟨by decide +kernel, by decide +kernel⟩, by decide +kernel⟩
set_option maxRecDepth 20000 in
theorem im_X5_dodgesOf : Cond.instanceMethod yX5_dodgesOf ∈ lw_tbl := t4 (List.mem_of_getElem? (i := 140) rfl)
set_option maxRecDepth 20000 in
theorem se_X5_dodgesOf : Cond.selects yX5_dodgesOf.cls yX5_dodgesOf yX5_dodgesOf ∈ lw_tbl := List.mem_append_left _ (List.mem_of_getElem? (i := 27) rfl)
theorem pn_X5_dodgesOf : plainName mX5_dodgesOf.1.cls = true := by decide +kernel
def mX5_ringer : gw_M := (yX5_ringer, cX5_ringer, 4, (some .int), 1, 22)
set_option maxRecDepth 20000 in
theorem cb_X5_ringer : CLb mX5_ringer 3 := ⟨t4 (List.mem_of_getElem? (i := 24) rfl), t1 (List.mem_of_getElem? (i := 5) rfl), ⟨by decide +kernel, by decide +kernel⟩, by decide +kernel⟩
set_option maxRecDepth 20000 in
theorem im_X5_ringer : Cond.instanceMethod yX5_ringer ∈ lw_tbl := t4 (List.mem_of_getElem? (i := 22) rfl)
set_option maxRecDepth 20000 in
theorem se_X5_ringer : Cond.selects yX5_ringer.cls yX5_ringer yX5_ringer ∈ lw_tbl := t4 (List.mem_of_getElem? (i := 23) rfl)
theorem pn_X5_ringer : plainName mX5_ringer.1.cls = true := by decide +kernel
def mX5_vote : gw_M := (yX5_vote, cX5_vote, 3, (some .int), 2, 43)
set_option maxRecDepth 20000 in
theorem cb_X5_vote : CLb mX5_vote 2 := ⟨t4 (List.mem_of_getElem? (i := 35) rfl), t1 (List.mem_of_getElem? (i := 5) rfl), ⟨by decide +kernel, by decide +kernel⟩, by decide +kernel⟩
set_option maxRecDepth 20000 in
theorem im_X5_vote : Cond.instanceMethod yX5_vote ∈ lw_tbl := t4 (List.mem_of_getElem? (i := 33) rfl)
set_option maxRecDepth 20000 in
theorem se_X5_vote : Cond.selects yX5_vote.cls yX5_vote yX5_vote ∈ lw_tbl := t4 (List.mem_of_getElem? (i := 34) rfl)
theorem pn_X5_vote : plainName mX5_vote.1.cls = true := by decide +kernel
def mX5_seat : gw_M := (yX5_seat, cX5_seat, 5, (some .int), 2, 43)
set_option maxRecDepth 20000 in
theorem cb_X5_seat : CLb mX5_seat 3 := ⟨t4 (List.mem_of_getElem? (i := 45) rfl), t1 (List.mem_of_getElem? (i := 5) rfl), ⟨by decide +kernel, by decide +kernel⟩, by decide +kernel⟩
set_option maxRecDepth 20000 in
theorem im_X5_seat : Cond.instanceMethod yX5_seat ∈ lw_tbl := t4 (List.mem_of_getElem? (i := 43) rfl)
set_option maxRecDepth 20000 in
theorem se_X5_seat : Cond.selects yX5_seat.cls yX5_seat yX5_seat ∈ lw_tbl := t4 (List.mem_of_getElem? (i := 44) rfl)
theorem pn_X5_seat : plainName mX5_seat.1.cls = true := by decide +kernel
def mX5_elect : gw_M := (yX5_elect, cX5_elect, 2, (some .int), 1, 24)
set_option maxRecDepth 20000 in
theorem cb_X5_elect : CLb mX5_elect 1 := ⟨t4 (List.mem_of_getElem? (i := 52) rfl), t1 (List.mem_of_getElem? (i := 5) rfl), ⟨by decide +kernel, by decide +kernel⟩, by decide +kernel⟩
set_option maxRecDepth 20000 in
theorem im_X5_elect : Cond.instanceMethod yX5_elect ∈ lw_tbl := t4 (List.mem_of_getElem? (i := 50) rfl)
set_option maxRecDepth 20000 in
theorem se_X5_elect : Cond.selects yX5_elect.cls yX5_elect yX5_elect ∈ lw_tbl := t4 (List.mem_of_getElem? (i := 51) rfl)
theorem pn_X5_elect : plainName mX5_elect.1.cls = true := by decide +kernel
def mX5_put : gw_M := (yX5_put, cX5_put, 4, (some .int), 2, 43)
set_option maxRecDepth 20000 in
theorem cb_X5_put : CLb mX5_put 3 := ⟨t4 (List.mem_of_getElem? (i := 64) rfl), t1 (List.mem_of_getElem? (i := 5) rfl), ⟨by decide +kernel, by decide +kernel⟩, by decide +kernel⟩
set_option maxRecDepth 20000 in
theorem im_X5_put : Cond.instanceMethod yX5_put ∈ lw_tbl := t4 (List.mem_of_getElem? (i := 62) rfl)
set_option maxRecDepth 20000 in
theorem se_X5_put : Cond.selects yX5_put.cls yX5_put yX5_put ∈ lw_tbl := t4 (List.mem_of_getElem? (i := 63) rfl)
theorem pn_X5_put : plainName mX5_put.1.cls = true := by decide +kernel
def mX5_leave : gw_M := (yX5_leave, cX5_leave, 3, (some .int), 2, 43)
set_option maxRecDepth 20000 in
theorem cb_X5_leave : CLb mX5_leave 1 := ⟨t4 (List.mem_of_getElem? (i := 72) rfl), t1 (List.mem_of_getElem? (i := 5) rfl), ⟨by decide +kernel, by decide +kernel⟩, by decide +kernel⟩
set_option maxRecDepth 20000 in
theorem im_X5_leave : Cond.instanceMethod yX5_leave ∈ lw_tbl := t4 (List.mem_of_getElem? (i := 70) rfl)
set_option maxRecDepth 20000 in
theorem se_X5_leave : Cond.selects yX5_leave.cls yX5_leave yX5_leave ∈ lw_tbl := t4 (List.mem_of_getElem? (i := 71) rfl)
theorem pn_X5_leave : plainName mX5_leave.1.cls = true := by decide +kernel
def mX5_ringerTold : gw_M := (yX5_ringerTold, cX5_ringerTold, 7, (some .int), 0, 0)
set_option maxRecDepth 20000 in
theorem cb_X5_ringerTold : CLb mX5_ringerTold 3 := ⟨t4 (List.mem_of_getElem? (i := 80) rfl), t1 (List.mem_of_getElem? (i := 5) rfl), ⟨by decide +kernel, by decide +kernel⟩, by decide +kernel⟩
set_option maxRecDepth 20000 in
theorem im_X5_ringerTold : Cond.instanceMethod yX5_ringerTold ∈ lw_tbl := t4 (List.mem_of_getElem? (i := 79) rfl)
set_option maxRecDepth 20000 in
theorem se_X5_ringerTold : Cond.selects yX5_ringerTold.cls yX5_ringerTold yX5_ringerTold ∈ lw_tbl := List.mem_append_left _ (List.mem_of_getElem? (i := 17) rfl)
theorem pn_X5_ringerTold : plainName mX5_ringerTold.1.cls = true := by decide +kernel
def mX5_told : gw_M := (yX5_told, cX5_told, 3, (some .int), 2, 43)
set_option maxRecDepth 20000 in
theorem cb_X5_told : CLb mX5_told 2 := ⟨t4 (List.mem_of_getElem? (i := 76) rfl), t1 (List.mem_of_getElem? (i := 5) rfl), ⟨by decide +kernel, by decide +kernel⟩, by decide +kernel⟩
set_option maxRecDepth 20000 in
theorem im_X5_told : Cond.instanceMethod yX5_told ∈ lw_tbl := t4 (List.mem_of_getElem? (i := 74) rfl)
set_option maxRecDepth 20000 in
theorem se_X5_told : Cond.selects yX5_told.cls yX5_told yX5_told ∈ lw_tbl := t4 (List.mem_of_getElem? (i := 75) rfl)
theorem pn_X5_told : plainName mX5_told.1.cls = true := by decide +kernel
def mX5_bellTold : gw_M := (yX5_bellTold, cX5_bellTold, 5, (some .int), 3, 103)
set_option maxRecDepth 20000 in
theorem cb_X5_bellTold : CLb mX5_bellTold 3 := ⟨t4 (List.mem_of_getElem? (i := 88) rfl), t1 (List.mem_of_getElem? (i := 5) rfl), ⟨by decide +kernel, by decide +kernel⟩, by decide +kernel⟩
set_option maxRecDepth 20000 in
theorem im_X5_bellTold : Cond.instanceMethod yX5_bellTold ∈ lw_tbl := t4 (List.mem_of_getElem? (i := 87) rfl)
set_option maxRecDepth 20000 in
theorem se_X5_bellTold : Cond.selects yX5_bellTold.cls yX5_bellTold yX5_bellTold ∈ lw_tbl := List.mem_append_left _ (List.mem_of_getElem? (i := 18) rfl)
theorem pn_X5_bellTold : plainName mX5_bellTold.1.cls = true := by decide +kernel
def mX5_bell : gw_M := (yX5_bell, cX5_bell, 4, (some .int), 4, 127)
set_option maxRecDepth 20000 in
theorem cb_X5_bell : CLb mX5_bell 3 := ⟨t4 (List.mem_of_getElem? (i := 84) rfl), t1 (List.mem_of_getElem? (i := 5) rfl), ⟨by decide +kernel, by decide +kernel⟩, by decide +kernel⟩
set_option maxRecDepth 20000 in
theorem im_X5_bell : Cond.instanceMethod yX5_bell ∈ lw_tbl := t4 (List.mem_of_getElem? (i := 82) rfl)
set_option maxRecDepth 20000 in
theorem se_X5_bell : Cond.selects yX5_bell.cls yX5_bell yX5_bell ∈ lw_tbl := t4 (List.mem_of_getElem? (i := 83) rfl)
theorem pn_X5_bell : plainName mX5_bell.1.cls = true := by decide +kernel
def mX5_method : gw_M := (yX5_method, cX5_method, 1, (some .int), 1, 21)
set_option maxRecDepth 20000 in
theorem cb_X5_method : CLb mX5_method 0 := ⟨t4 (List.mem_of_getElem? (i := 101) rfl), t1 (List.mem_of_getElem? (i := 5) rfl), ⟨by decide +kernel, by decide +kernel⟩, by decide +kernel⟩
set_option maxRecDepth 20000 in
theorem im_X5_method : Cond.instanceMethod yX5_method ∈ lw_tbl := t4 (List.mem_of_getElem? (i := 99) rfl)
set_option maxRecDepth 20000 in
theorem se_X5_method : Cond.selects yX5_method.cls yX5_method yX5_method ∈ lw_tbl := t4 (List.mem_of_getElem? (i := 100) rfl)
theorem pn_X5_method : plainName mX5_method.1.cls = true := by decide +kernel
def mX5_add : gw_M := (yX5_add, cX5_add, 3, (some .int), 2, 43)
set_option maxRecDepth 20000 in
theorem cb_X5_add : CLb mX5_add 2 := ⟨t4 (List.mem_of_getElem? (i := 105) rfl), t1 (List.mem_of_getElem? (i := 5) rfl), ⟨by decide +kernel, by decide +kernel⟩, by decide +kernel⟩
set_option maxRecDepth 20000 in
theorem im_X5_add : Cond.instanceMethod yX5_add ∈ lw_tbl := t4 (List.mem_of_getElem? (i := 103) rfl)
set_option maxRecDepth 20000 in
theorem se_X5_add : Cond.selects yX5_add.cls yX5_add yX5_add ∈ lw_tbl := t4 (List.mem_of_getElem? (i := 104) rfl)
theorem pn_X5_add : plainName mX5_add.1.cls = true := by decide +kernel
def mX5_methodTold : gw_M := (yX5_methodTold, cX5_methodTold, 9, (some .int), 4, 96)
set_option maxRecDepth 20000 in
theorem cb_X5_methodTold : CLb mX5_methodTold 2 := ⟨t4 (List.mem_of_getElem? (i := 117) rfl), t1 (List.mem_of_getElem? (i := 5) rfl), ⟨by decide +kernel, by decide +kernel⟩, by decide +kernel⟩
set_option maxRecDepth 20000 in
theorem im_X5_methodTold : Cond.instanceMethod yX5_methodTold ∈ lw_tbl := t4 (List.mem_of_getElem? (i := 116) rfl)
set_option maxRecDepth 20000 in
theorem se_X5_methodTold : Cond.selects yX5_methodTold.cls yX5_methodTold yX5_methodTold ∈ lw_tbl := List.mem_append_left _ (List.mem_of_getElem? (i := 21) rfl)
theorem pn_X5_methodTold : plainName mX5_methodTold.1.cls = true := by decide +kernel
def mX5_about : gw_M := (yX5_about, cX5_about, 3, (some .int), 5, 124)
set_option maxRecDepth 20000 in
theorem cb_X5_about : CLb mX5_about 2 := ⟨t4 (List.mem_of_getElem? (i := 113) rfl), t1 (List.mem_of_getElem? (i := 5) rfl), ⟨by decide +kernel, by decide +kernel⟩, by decide +kernel⟩
set_option maxRecDepth 20000 in
theorem im_X5_about : Cond.instanceMethod yX5_about ∈ lw_tbl := t4 (List.mem_of_getElem? (i := 111) rfl)
set_option maxRecDepth 20000 in
theorem se_X5_about : Cond.selects yX5_about.cls yX5_about yX5_about ∈ lw_tbl := t4 (List.mem_of_getElem? (i := 112) rfl)
theorem pn_X5_about : plainName mX5_about.1.cls = true := by decide +kernel
def mX5_row : gw_M := (yX5_row, cX5_row, 3, (some .int), 2, 52)
set_option maxRecDepth 20000 in
theorem cb_X5_row : CLb mX5_row 2 := ⟨t4 (List.mem_of_getElem? (i := 149) rfl), t1 (List.mem_of_getElem? (i := 5) rfl), ⟨by decide +kernel, by decide +kernel⟩, by decide +kernel⟩
set_option maxRecDepth 20000 in
theorem im_X5_row : Cond.instanceMethod yX5_row ∈ lw_tbl := t4 (List.mem_of_getElem? (i := 147) rfl)
set_option maxRecDepth 20000 in
theorem se_X5_row : Cond.selects yX5_row.cls yX5_row yX5_row ∈ lw_tbl := t4 (List.mem_of_getElem? (i := 148) rfl)
theorem pn_X5_row : plainName mX5_row.1.cls = true := by decide +kernel
def mX5_dodges : gw_M := (yX5_dodges, cX5_dodges, 3, (some .int), 4, 96)
set_option maxRecDepth 20000 in
theorem cb_X5_dodges : CLb mX5_dodges 2 := ⟨t4 (List.mem_of_getElem? (i := 153) rfl), t1 (List.mem_of_getElem? (i := 5) rfl), ⟨by decide +kernel, by decide +kernel⟩, by decide +kernel⟩
set_option maxRecDepth 20000 in
theorem im_X5_dodges : Cond.instanceMethod yX5_dodges ∈ lw_tbl := t4 (List.mem_of_getElem? (i := 151) rfl)
set_option maxRecDepth 20000 in
theorem se_X5_dodges : Cond.selects yX5_dodges.cls yX5_dodges yX5_dodges ∈ lw_tbl := t4 (List.mem_of_getElem? (i := 152) rfl)
theorem pn_X5_dodges : plainName mX5_dodges.1.cls = true := by decide +kernel
def mX5_ring : gw_M := (yX5_ring, cX5_ring, 5, (some .int), 4, 102)
set_option maxRecDepth 20000 in
theorem cb_X5_ring : CLb mX5_ring 3 := ⟨t4 (List.mem_of_getElem? (i := 157) rfl), t1 (List.mem_of_getElem? (i := 5) rfl), ⟨by decide +kernel, by decide +kernel⟩, by decide +kernel⟩
set_option maxRecDepth 20000 in
theorem im_X5_ring : Cond.instanceMethod yX5_ring ∈ lw_tbl := t4 (List.mem_of_getElem? (i := 155) rfl)
set_option maxRecDepth 20000 in
theorem se_X5_ring : Cond.selects yX5_ring.cls yX5_ring yX5_ring ∈ lw_tbl := t4 (List.mem_of_getElem? (i := 156) rfl)
theorem pn_X5_ring : plainName mX5_ring.1.cls = true := by decide +kernel
def mX5_wouldBring : gw_M := (yX5_wouldBring, cX5_wouldBring, 4, (some .int), 4, 103)
set_option maxRecDepth 20000 in
theorem cb_X5_wouldBring : CLb mX5_wouldBring 3 := ⟨t4 (List.mem_of_getElem? (i := 178) rfl), t1 (List.mem_of_getElem? (i := 5) rfl), ⟨by decide +kernel, by decide +kernel⟩, by decide +kernel⟩
set_option maxRecDepth 20000 in
theorem im_X5_wouldBring : Cond.instanceMethod yX5_wouldBring ∈ lw_tbl := t4 (List.mem_of_getElem? (i := 177) rfl)
set_option maxRecDepth 20000 in
theorem se_X5_wouldBring : Cond.selects yX5_wouldBring.cls yX5_wouldBring yX5_wouldBring ∈ lw_tbl := List.mem_append_left _ (List.mem_of_getElem? (i := 29) rfl)
theorem pn_X5_wouldBring : plainName mX5_wouldBring.1.cls = true := by decide +kernel
def mX5_would : gw_M := (yX5_would, cX5_would, 4, (some .int), 5, 126)
set_option maxRecDepth 20000 in
theorem cb_X5_would : CLb mX5_would 3 := ⟨t4 (List.mem_of_getElem? (i := 174) rfl), t1 (List.mem_of_getElem? (i := 5) rfl), ⟨by decide +kernel, by decide +kernel⟩, by decide +kernel⟩
set_option maxRecDepth 20000 in
theorem im_X5_would : Cond.instanceMethod yX5_would ∈ lw_tbl := t4 (List.mem_of_getElem? (i := 172) rfl)
set_option maxRecDepth 20000 in
theorem se_X5_would : Cond.selects yX5_would.cls yX5_would yX5_would ∈ lw_tbl := t4 (List.mem_of_getElem? (i := 173) rfl)
theorem pn_X5_would : plainName mX5_would.1.cls = true := by decide +kernel
def mX5_advise : gw_M := (yX5_advise, cX5_advise, 6, (some .int), 5, 126)
set_option maxRecDepth 20000 in
theorem cb_X5_advise : CLb mX5_advise 1 := ⟨t4 (List.mem_of_getElem? (i := 186) rfl), t1 (List.mem_of_getElem? (i := 5) rfl), ⟨by decide +kernel, by decide +kernel⟩, by decide +kernel⟩
set_option maxRecDepth 20000 in
theorem im_X5_advise : Cond.instanceMethod yX5_advise ∈ lw_tbl := t4 (List.mem_of_getElem? (i := 184) rfl)
set_option maxRecDepth 20000 in
theorem se_X5_advise : Cond.selects yX5_advise.cls yX5_advise yX5_advise ∈ lw_tbl := t4 (List.mem_of_getElem? (i := 185) rfl)
theorem pn_X5_advise : plainName mX5_advise.1.cls = true := by decide +kernel
def mX5_counted : gw_M := (yX5_counted, cX5_counted, 6, (some .int), 1, 23)
set_option maxRecDepth 20000 in
theorem cb_X5_counted : CLb mX5_counted 1 := ⟨t4 (List.mem_of_getElem? (i := 194) rfl), t1 (List.mem_of_getElem? (i := 5) rfl), ⟨by decide +kernel, by decide +kernel⟩, by decide +kernel⟩
set_option maxRecDepth 20000 in
theorem im_X5_counted : Cond.instanceMethod yX5_counted ∈ lw_tbl := t4 (List.mem_of_getElem? (i := 193) rfl)
set_option maxRecDepth 20000 in
theorem se_X5_counted : Cond.selects yX5_counted.cls yX5_counted yX5_counted ∈ lw_tbl := List.mem_append_left _ (List.mem_of_getElem? (i := 30) rfl)
theorem pn_X5_counted : plainName mX5_counted.1.cls = true := by decide +kernel
def mX5_count : gw_M := (yX5_count, cX5_count, 2, (some .int), 2, 48)
set_option maxRecDepth 20000 in
theorem cb_X5_count : CLb mX5_count 1 := ⟨t4 (List.mem_of_getElem? (i := 190) rfl), t1 (List.mem_of_getElem? (i := 5) rfl), ⟨by decide +kernel, by decide +kernel⟩, by decide +kernel⟩
set_option maxRecDepth 20000 in
theorem im_X5_count : Cond.instanceMethod yX5_count ∈ lw_tbl := t4 (List.mem_of_getElem? (i := 188) rfl)
set_option maxRecDepth 20000 in
theorem se_X5_count : Cond.selects yX5_count.cls yX5_count yX5_count ∈ lw_tbl := t4 (List.mem_of_getElem? (i := 189) rfl)
theorem pn_X5_count : plainName mX5_count.1.cls = true := by decide +kernel
def mX5_pass : gw_M := (yX5_pass, cX5_pass, 5, (some .int), 3, 67)
set_option maxRecDepth 20000 in
theorem cb_X5_pass : CLb mX5_pass 1 := ⟨t4 (List.mem_of_getElem? (i := 198) rfl), t1 (List.mem_of_getElem? (i := 5) rfl), ⟨by decide +kernel, by decide +kernel⟩, by decide +kernel⟩
set_option maxRecDepth 20000 in
theorem im_X5_pass : Cond.instanceMethod yX5_pass ∈ lw_tbl := t4 (List.mem_of_getElem? (i := 196) rfl)
set_option maxRecDepth 20000 in
theorem se_X5_pass : Cond.selects yX5_pass.cls yX5_pass yX5_pass ∈ lw_tbl := t4 (List.mem_of_getElem? (i := 197) rfl)
theorem pn_X5_pass : plainName mX5_pass.1.cls = true := by decide +kernel
def mX5_foresee : gw_M := (yX5_foresee, cX5_foresee, 4, (some .int), 3, 103)
set_option maxRecDepth 20000 in
theorem cb_X5_foresee : CLb mX5_foresee 3 := ⟨t4 (List.mem_of_getElem? (i := 218) rfl), t1 (List.mem_of_getElem? (i := 5) rfl), ⟨by decide +kernel, by decide +kernel⟩, by decide +kernel⟩
set_option maxRecDepth 20000 in
theorem im_X5_foresee : Cond.instanceMethod yX5_foresee ∈ lw_tbl := t4 (List.mem_of_getElem? (i := 216) rfl)
set_option maxRecDepth 20000 in
theorem se_X5_foresee : Cond.selects yX5_foresee.cls yX5_foresee yX5_foresee ∈ lw_tbl := t4 (List.mem_of_getElem? (i := 217) rfl)
theorem pn_X5_foresee : plainName mX5_foresee.1.cls = true := by decide +kernel
def mX5_mean : gw_M := (yX5_mean, cX5_mean, 4, (some .double), 0, 0)
set_option maxRecDepth 20000 in
theorem cb_X5_mean : CLb mX5_mean 0 := ⟨t4 (List.mem_of_getElem? (i := 222) rfl), t1 (List.mem_of_getElem? (i := 5) rfl), ⟨by decide +kernel, by decide +kernel⟩, by decide +kernel⟩
set_option maxRecDepth 20000 in
theorem im_X5_mean : Cond.instanceMethod yX5_mean ∈ lw_tbl := t4 (List.mem_of_getElem? (i := 220) rfl)
set_option maxRecDepth 20000 in
theorem se_X5_mean : Cond.selects yX5_mean.cls yX5_mean yX5_mean ∈ lw_tbl := t4 (List.mem_of_getElem? (i := 221) rfl)
theorem pn_X5_mean : plainName mX5_mean.1.cls = true := by decide +kernel
def mX5_digest : gw_M := (yX5_digest, cX5_digest, 5, (some .long), 5, 127)
set_option maxRecDepth 20000 in
theorem cb_X5_digest : CLb mX5_digest 0 := ⟨t4 (List.mem_of_getElem? (i := 226) rfl), t1 (List.mem_of_getElem? (i := 5) rfl), ⟨by decide +kernel, by decide +kernel⟩, by decide +kernel⟩
set_option maxRecDepth 20000 in
theorem im_X5_digest : Cond.instanceMethod yX5_digest ∈ lw_tbl := t4 (List.mem_of_getElem? (i := 224) rfl)
set_option maxRecDepth 20000 in
theorem se_X5_digest : Cond.selects yX5_digest.cls yX5_digest yX5_digest ∈ lw_tbl := t4 (List.mem_of_getElem? (i := 225) rfl)
theorem pn_X5_digest : plainName mX5_digest.1.cls = true := by decide +kernel
def mX0_init : gw_M := (yX0_init, cX0_init, 1, none, 1, 20)
set_option maxRecDepth 20000 in
theorem cb_X0_init : CLb mX0_init 0 := ⟨t1 (List.mem_of_getElem? (i := 98) rfl), t1 (List.mem_of_getElem? (i := 4) rfl), ⟨by decide +kernel, by decide +kernel⟩, by decide +kernel⟩
set_option maxRecDepth 20000 in
theorem im_X0_init : Cond.instanceMethod yX0_init ∈ lw_tbl := t1 (List.mem_of_getElem? (i := 97) rfl)
theorem pn_X0_init : plainName mX0_init.1.cls = true := by decide +kernel
def mX0_changeAt : gw_M := (yX0_changeAt, cX0_changeAt, 2, (some .int), 0, 0)
set_option maxRecDepth 20000 in
theorem cb_X0_changeAt : CLb mX0_changeAt 1 := ⟨t2 (List.mem_of_getElem? (i := 101) rfl), t1 (List.mem_of_getElem? (i := 4) rfl), ⟨by decide +kernel, by decide +kernel⟩, by decide +kernel⟩
set_option maxRecDepth 20000 in
theorem im_X0_changeAt : Cond.instanceMethod yX0_changeAt ∈ lw_tbl := t2 (List.mem_of_getElem? (i := 99) rfl)
set_option maxRecDepth 20000 in
theorem se_X0_changeAt : Cond.selects yX0_changeAt.cls yX0_changeAt yX0_changeAt ∈ lw_tbl := t2 (List.mem_of_getElem? (i := 100) rfl)
theorem pn_X0_changeAt : plainName mX0_changeAt.1.cls = true := by decide +kernel
def mX0_append : gw_M := (yX0_append, cX0_append, 2, none, 0, 0)
set_option maxRecDepth 20000 in
theorem cb_X0_append : CLb mX0_append 1 := ⟨t2 (List.mem_of_getElem? (i := 235) rfl), t1 (List.mem_of_getElem? (i := 4) rfl), ⟨by decide +kernel, by decide +kernel⟩, by decide +kernel⟩
set_option maxRecDepth 20000 in
theorem im_X0_append : Cond.instanceMethod yX0_append ∈ lw_tbl := t2 (List.mem_of_getElem? (i := 233) rfl)
set_option maxRecDepth 20000 in
theorem se_X0_append : Cond.selects yX0_append.cls yX0_append yX0_append ∈ lw_tbl := t2 (List.mem_of_getElem? (i := 234) rfl)
theorem pn_X0_append : plainName mX0_append.1.cls = true := by decide +kernel
def mX0_measureCourse : gw_M := (yX0_measureCourse, cX0_measureCourse, 3, none, 3, 70)
set_option maxRecDepth 20000 in
theorem cb_X0_measureCourse : CLb mX0_measureCourse 1 := ⟨t2 (List.mem_of_getElem? (i := 239) rfl), t1 (List.mem_of_getElem? (i := 4) rfl), ⟨by decide +kernel, by decide +kernel⟩, by decide +kernel⟩
set_option maxRecDepth 20000 in
theorem im_X0_measureCourse : Cond.instanceMethod yX0_measureCourse ∈ lw_tbl := t2 (List.mem_of_getElem? (i := 237) rfl)
set_option maxRecDepth 20000 in
theorem se_X0_measureCourse : Cond.selects yX0_measureCourse.cls yX0_measureCourse yX0_measureCourse ∈ lw_tbl := t2 (List.mem_of_getElem? (i := 238) rfl)
theorem pn_X0_measureCourse : plainName mX0_measureCourse.1.cls = true := by decide +kernel
def mX0_goThroughLead : gw_M := (yX0_goThroughLead, cX0_goThroughLead, 4, none, 2, 47)
set_option maxRecDepth 20000 in
theorem cb_X0_goThroughLead : CLb mX0_goThroughLead 1 := ⟨t3 (List.mem_of_getElem? (i := 17) rfl), t1 (List.mem_of_getElem? (i := 4) rfl), ⟨by decide +kernel, by decide +kernel⟩, by decide +kernel⟩
set_option maxRecDepth 20000 in
theorem im_X0_goThroughLead : Cond.instanceMethod yX0_goThroughLead ∈ lw_tbl := t3 (List.mem_of_getElem? (i := 16) rfl)
set_option maxRecDepth 20000 in
theorem se_X0_goThroughLead : Cond.selects yX0_goThroughLead.cls yX0_goThroughLead yX0_goThroughLead ∈ lw_tbl := List.mem_append_left _ (List.mem_of_getElem? (i := 8) rfl)
theorem pn_X0_goThroughLead : plainName mX0_goThroughLead.1.cls = true := by decide +kernel
def mX0_tellOfCourse : gw_M := (yX0_tellOfCourse, cX0_tellOfCourse, 2, (some .int), 1, 22)
set_option maxRecDepth 20000 in
theorem cb_X0_tellOfCourse : CLb mX0_tellOfCourse 1 := ⟨t2 (List.mem_of_getElem? (i := 93) rfl), t1 (List.mem_of_getElem? (i := 4) rfl), ⟨by decide +kernel, by decide +kernel⟩, by decide +kernel⟩
set_option maxRecDepth 20000 in
theorem im_X0_tellOfCourse : Cond.instanceMethod yX0_tellOfCourse ∈ lw_tbl := t2 (List.mem_of_getElem? (i := 91) rfl)
set_option maxRecDepth 20000 in
theorem se_X0_tellOfCourse : Cond.selects yX0_tellOfCourse.cls yX0_tellOfCourse yX0_tellOfCourse ∈ lw_tbl := t2 (List.mem_of_getElem? (i := 92) rfl)
theorem pn_X0_tellOfCourse : plainName mX0_tellOfCourse.1.cls = true := by decide +kernel
def mX0_allDodges : gw_M := (yX0_allDodges, cX0_allDodges, 3, (some .int), 0, 0)
set_option maxRecDepth 20000 in
theorem cb_X0_allDodges : CLb mX0_allDodges 0 := ⟨t2 (List.mem_of_getElem? (i := 97) rfl), t1 (List.mem_of_getElem? (i := 4) rfl), ⟨by decide +kernel, by decide +kernel⟩, by decide +kernel⟩
set_option maxRecDepth 20000 in
theorem im_X0_allDodges : Cond.instanceMethod yX0_allDodges ∈ lw_tbl := t2 (List.mem_of_getElem? (i := 96) rfl)
set_option maxRecDepth 20000 in
theorem se_X0_allDodges : Cond.selects yX0_allDodges.cls yX0_allDodges yX0_allDodges ∈ lw_tbl := List.mem_append_left _ (List.mem_of_getElem? (i := 6) rfl)
theorem pn_X0_allDodges : plainName mX0_allDodges.1.cls = true := by decide +kernel
def mX1_init : gw_M := (yX1_init, cX1_init, 1, none, 1, 20)
set_option maxRecDepth 20000 in
theorem cb_X1_init : CLb mX1_init 0 := ⟨t1 (List.mem_of_getElem? (i := 71) rfl), t1 (List.mem_of_getElem? (i := 3) rfl), ⟨by decide +kernel, by decide +kernel⟩, by decide +kernel⟩
set_option maxRecDepth 20000 in
theorem im_X1_init : Cond.instanceMethod yX1_init ∈ lw_tbl := t1 (List.mem_of_getElem? (i := 70) rfl)
theorem pn_X1_init : plainName mX1_init.1.cls = true := by decide +kernel
def mX1_begin : gw_M := (yX1_begin, cX1_begin, 2, none, 1, 24)
set_option maxRecDepth 20000 in
theorem cb_X1_begin : CLb mX1_begin 0 := ⟨t3 (List.mem_of_getElem? (i := 6) rfl), t1 (List.mem_of_getElem? (i := 3) rfl), ⟨by decide +kernel, by decide +kernel⟩, by decide +kernel⟩
set_option maxRecDepth 20000 in
theorem im_X1_begin : Cond.instanceMethod yX1_begin ∈ lw_tbl := t3 (List.mem_of_getElem? (i := 4) rfl)
set_option maxRecDepth 20000 in
theorem se_X1_begin : Cond.selects yX1_begin.cls yX1_begin yX1_begin ∈ lw_tbl := t3 (List.mem_of_getElem? (i := 5) rfl)
theorem pn_X1_begin : plainName mX1_begin.1.cls = true := by decide +kernel
def mX1_makeChange : gw_M := (yX1_makeChange, cX1_makeChange, 4, none, 1, 24)
set_option maxRecDepth 20000 in
theorem cb_X1_makeChange : CLb mX1_makeChange 1 := ⟨t3 (List.mem_of_getElem? (i := 21) rfl), t1 (List.mem_of_getElem? (i := 3) rfl), ⟨by decide +kernel, by decide +kernel⟩, by decide +kernel⟩
set_option maxRecDepth 20000 in
theorem im_X1_makeChange : Cond.instanceMethod yX1_makeChange ∈ lw_tbl := t3 (List.mem_of_getElem? (i := 19) rfl)
set_option maxRecDepth 20000 in
theorem se_X1_makeChange : Cond.selects yX1_makeChange.cls yX1_makeChange yX1_makeChange ∈ lw_tbl := t3 (List.mem_of_getElem? (i := 20) rfl)
theorem pn_X1_makeChange : plainName mX1_makeChange.1.cls = true := by decide +kernel
def mX1_moveFrom : gw_M := (yX1_moveFrom, cX1_moveFrom, 2, (some .int), 0, 0)
set_option maxRecDepth 20000 in
theorem cb_X1_moveFrom : CLb mX1_moveFrom 2 := ⟨t3 (List.mem_of_getElem? (i := 24) rfl), t1 (List.mem_of_getElem? (i := 3) rfl), ⟨by decide +kernel, by decide +kernel⟩, by decide +kernel⟩
set_option maxRecDepth 20000 in
theorem st_X1_moveFrom : Cond.static yX1_moveFrom ∈ lw_tbl := t3 (List.mem_of_getElem? (i := 23) rfl)
theorem pn_X1_moveFrom : plainName mX1_moveFrom.1.cls = true := by decide +kernel
def mX1_noteRow : gw_M := (yX1_noteRow, cX1_noteRow, 5, none, 0, 0)
set_option maxRecDepth 20000 in
theorem cb_X1_noteRow : CLb mX1_noteRow 0 := ⟨t3 (List.mem_of_getElem? (i := 13) rfl), t1 (List.mem_of_getElem? (i := 3) rfl), ⟨by decide +kernel, by decide +kernel⟩, by decide +kernel⟩
set_option maxRecDepth 20000 in
theorem im_X1_noteRow : Cond.instanceMethod yX1_noteRow ∈ lw_tbl := t3 (List.mem_of_getElem? (i := 12) rfl)
set_option maxRecDepth 20000 in
theorem se_X1_noteRow : Cond.selects yX1_noteRow.cls yX1_noteRow yX1_noteRow ∈ lw_tbl := List.mem_append_left _ (List.mem_of_getElem? (i := 7) rfl)
theorem pn_X1_noteRow : plainName mX1_noteRow.1.cls = true := by decide +kernel
def mX1_hasDodged : gw_M := (yX1_hasDodged, cX1_hasDodged, 2, (some .boolean), 0, 0)
set_option maxRecDepth 20000 in
theorem cb_X1_hasDodged : CLb mX1_hasDodged 1 := ⟨t3 (List.mem_of_getElem? (i := 28) rfl), t1 (List.mem_of_getElem? (i := 3) rfl), ⟨by decide +kernel, by decide +kernel⟩, by decide +kernel⟩
set_option maxRecDepth 20000 in
theorem im_X1_hasDodged : Cond.instanceMethod yX1_hasDodged ∈ lw_tbl := t3 (List.mem_of_getElem? (i := 26) rfl)
set_option maxRecDepth 20000 in
theorem se_X1_hasDodged : Cond.selects yX1_hasDodged.cls yX1_hasDodged yX1_hasDodged ∈ lw_tbl := t3 (List.mem_of_getElem? (i := 27) rfl)
theorem pn_X1_hasDodged : plainName mX1_hasDodged.1.cls = true := by decide +kernel
def mX1_bellsAtHome : gw_M := (yX1_bellsAtHome, cX1_bellsAtHome, 3, (some .int), 0, 0)
set_option maxRecDepth 20000 in
theorem cb_X1_bellsAtHome : CLb mX1_bellsAtHome 0 := ⟨t3 (List.mem_of_getElem? (i := 32) rfl), t1 (List.mem_of_getElem? (i := 3) rfl), ⟨by decide +kernel, by decide +kernel⟩, by decide +kernel⟩
set_option maxRecDepth 20000 in
theorem im_X1_bellsAtHome : Cond.instanceMethod yX1_bellsAtHome ∈ lw_tbl := t3 (List.mem_of_getElem? (i := 30) rfl)
set_option maxRecDepth 20000 in
theorem se_X1_bellsAtHome : Cond.selects yX1_bellsAtHome.cls yX1_bellsAtHome yX1_bellsAtHome ∈ lw_tbl := t3 (List.mem_of_getElem? (i := 31) rfl)
theorem pn_X1_bellsAtHome : plainName mX1_bellsAtHome.1.cls = true := by decide +kernel
def mX1_isRounds : gw_M := (yX1_isRounds, cX1_isRounds, 1, (some .boolean), 1, 22)
set_option maxRecDepth 20000 in
theorem cb_X1_isRounds : CLb mX1_isRounds 0 := ⟨t3 (List.mem_of_getElem? (i := 36) rfl), t1 (List.mem_of_getElem? (i := 3) rfl), ⟨by decide +kernel, by decide +kernel⟩, by decide +kernel⟩
set_option maxRecDepth 20000 in
theorem im_X1_isRounds : Cond.instanceMethod yX1_isRounds ∈ lw_tbl := t3 (List.mem_of_getElem? (i := 34) rfl)
set_option maxRecDepth 20000 in
theorem se_X1_isRounds : Cond.selects yX1_isRounds.cls yX1_isRounds yX1_isRounds ∈ lw_tbl := t3 (List.mem_of_getElem? (i := 35) rfl)
theorem pn_X1_isRounds : plainName mX1_isRounds.1.cls = true := by decide +kernel
def mX1_falseRows : gw_M := (yX1_falseRows, cX1_falseRows, 1, (some .int), 2, 42)
set_option maxRecDepth 20000 in
theorem cb_X1_falseRows : CLb mX1_falseRows 0 := ⟨t3 (List.mem_of_getElem? (i := 45) rfl), t1 (List.mem_of_getElem? (i := 3) rfl), ⟨by decide +kernel, by decide +kernel⟩, by decide +kernel⟩
set_option maxRecDepth 20000 in
theorem im_X1_falseRows : Cond.instanceMethod yX1_falseRows ∈ lw_tbl := t3 (List.mem_of_getElem? (i := 43) rfl)
set_option maxRecDepth 20000 in
theorem se_X1_falseRows : Cond.selects yX1_falseRows.cls yX1_falseRows yX1_falseRows ∈ lw_tbl := t3 (List.mem_of_getElem? (i := 44) rfl)
theorem pn_X1_falseRows : plainName mX1_falseRows.1.cls = true := by decide +kernel
def mX1_differentRows : gw_M := (yX1_differentRows, cX1_differentRows, 1, (some .int), 0, 0)
set_option maxRecDepth 20000 in
theorem cb_X1_differentRows : CLb mX1_differentRows 0 := ⟨t3 (List.mem_of_getElem? (i := 41) rfl), t1 (List.mem_of_getElem? (i := 3) rfl), ⟨by decide +kernel, by decide +kernel⟩, by decide +kernel⟩
set_option maxRecDepth 20000 in
theorem im_X1_differentRows : Cond.instanceMethod yX1_differentRows ∈ lw_tbl := t3 (List.mem_of_getElem? (i := 39) rfl)
set_option maxRecDepth 20000 in
theorem se_X1_differentRows : Cond.selects yX1_differentRows.cls yX1_differentRows yX1_differentRows ∈ lw_tbl := t3 (List.mem_of_getElem? (i := 40) rfl)
theorem pn_X1_differentRows : plainName mX1_differentRows.1.cls = true := by decide +kernel
def mX1_rowCode : gw_M := (yX1_rowCode, cX1_rowCode, 3, (some .int), 1, 22)
set_option maxRecDepth 20000 in
theorem cb_X1_rowCode : CLb mX1_rowCode 0 := ⟨t3 (List.mem_of_getElem? (i := 64) rfl), t1 (List.mem_of_getElem? (i := 3) rfl), ⟨by decide +kernel, by decide +kernel⟩, by decide +kernel⟩
set_option maxRecDepth 20000 in
theorem im_X1_rowCode : Cond.instanceMethod yX1_rowCode ∈ lw_tbl := t3 (List.mem_of_getElem? (i := 62) rfl)
set_option maxRecDepth 20000 in
theorem se_X1_rowCode : Cond.selects yX1_rowCode.cls yX1_rowCode yX1_rowCode ∈ lw_tbl := t3 (List.mem_of_getElem? (i := 63) rfl)
theorem pn_X1_rowCode : plainName mX1_rowCode.1.cls = true := by decide +kernel
def mX1_bellAt : gw_M := (yX1_bellAt, cX1_bellAt, 3, (some .int), 0, 0)
set_option maxRecDepth 20000 in
theorem cb_X1_bellAt : CLb mX1_bellAt 1 := ⟨t3 (List.mem_of_getElem? (i := 68) rfl), t1 (List.mem_of_getElem? (i := 3) rfl), ⟨by decide +kernel, by decide +kernel⟩, by decide +kernel⟩
set_option maxRecDepth 20000 in
theorem im_X1_bellAt : Cond.instanceMethod yX1_bellAt ∈ lw_tbl := t3 (List.mem_of_getElem? (i := 67) rfl)
set_option maxRecDepth 20000 in
theorem se_X1_bellAt : Cond.selects yX1_bellAt.cls yX1_bellAt yX1_bellAt ∈ lw_tbl := List.mem_append_left _ (List.mem_of_getElem? (i := 9) rfl)
theorem pn_X1_bellAt : plainName mX1_bellAt.1.cls = true := by decide +kernel
def mX2_init : gw_M := (yX2_init, cX2_init, 2, none, 1, 20)
set_option maxRecDepth 20000 in
theorem cb_X2_init : CLb mX2_init 0 := ⟨t1 (List.mem_of_getElem? (i := 28) rfl), t1 (List.mem_of_getElem? (i := 2) rfl), ⟨by decide +kernel, by decide +kernel⟩, by decide +kernel⟩
set_option maxRecDepth 20000 in
theorem im_X2_init : Cond.instanceMethod yX2_init ∈ lw_tbl := t1 (List.mem_of_getElem? (i := 27) rfl)
theorem pn_X2_init : plainName mX2_init.1.cls = true := by decide +kernel
def mX2_copyFrom : gw_M := (yX2_copyFrom, cX2_copyFrom, 2, none, 1, 60)
set_option maxRecDepth 20000 in
theorem cb_X2_copyFrom : CLb mX2_copyFrom 1 := ⟨t2 (List.mem_of_getElem? (i := 66) rfl), t1 (List.mem_of_getElem? (i := 2) rfl), ⟨by decide +kernel, by decide +kernel⟩, by decide +kernel⟩
set_option maxRecDepth 20000 in
theorem im_X2_copyFrom : Cond.instanceMethod yX2_copyFrom ∈ lw_tbl := t2 (List.mem_of_getElem? (i := 64) rfl)
set_option maxRecDepth 20000 in
theorem se_X2_copyFrom : Cond.selects yX2_copyFrom.cls yX2_copyFrom yX2_copyFrom ∈ lw_tbl := t2 (List.mem_of_getElem? (i := 65) rfl)
theorem pn_X2_copyFrom : plainName mX2_copyFrom.1.cls = true := by decide +kernel
def mX2_enrol : gw_M := (yX2_enrol, cX2_enrol, 5, (some .int), 0, 0)
set_option maxRecDepth 20000 in
theorem cb_X2_enrol : CLb mX2_enrol 3 := ⟨t2 (List.mem_of_getElem? (i := 154) rfl), t1 (List.mem_of_getElem? (i := 2) rfl), ⟨by decide +kernel, by decide +kernel⟩, by decide +kernel⟩
set_option maxRecDepth 20000 in
theorem im_X2_enrol : Cond.instanceMethod yX2_enrol ∈ lw_tbl := t2 (List.mem_of_getElem? (i := 152) rfl)
set_option maxRecDepth 20000 in
theorem se_X2_enrol : Cond.selects yX2_enrol.cls yX2_enrol yX2_enrol ∈ lw_tbl := t2 (List.mem_of_getElem? (i := 153) rfl)
theorem pn_X2_enrol : plainName mX2_enrol.1.cls = true := by decide +kernel
def mX2_changeVotes : gw_M := (yX2_changeVotes, cX2_changeVotes, 3, none, 1, 21)
set_option maxRecDepth 20000 in
theorem cb_X2_changeVotes : CLb mX2_changeVotes 2 := ⟨t2 (List.mem_of_getElem? (i := 165) rfl), t1 (List.mem_of_getElem? (i := 2) rfl), ⟨by decide +kernel, by decide +kernel⟩, by decide +kernel⟩
set_option maxRecDepth 20000 in
theorem im_X2_changeVotes : Cond.instanceMethod yX2_changeVotes ∈ lw_tbl := t2 (List.mem_of_getElem? (i := 163) rfl)
set_option maxRecDepth 20000 in
theorem se_X2_changeVotes : Cond.selects yX2_changeVotes.cls yX2_changeVotes yX2_changeVotes ∈ lw_tbl := t2 (List.mem_of_getElem? (i := 164) rfl)
theorem pn_X2_changeVotes : plainName mX2_changeVotes.1.cls = true := by decide +kernel
def mX2_ringsBell : gw_M := (yX2_ringsBell, cX2_ringsBell, 2, (some .boolean), 0, 0)
set_option maxRecDepth 20000 in
theorem cb_X2_ringsBell : CLb mX2_ringsBell 1 := ⟨t1 (List.mem_of_getElem? (i := 167) rfl), t1 (List.mem_of_getElem? (i := 2) rfl), ⟨by decide +kernel, by decide +kernel⟩, by decide +kernel⟩
set_option maxRecDepth 20000 in
theorem im_X2_ringsBell : Cond.instanceMethod yX2_ringsBell ∈ lw_tbl := t1 (List.mem_of_getElem? (i := 165) rfl)
set_option maxRecDepth 20000 in
theorem se_X2_ringsBell : Cond.selects yX2_ringsBell.cls yX2_ringsBell yX2_ringsBell ∈ lw_tbl := t1 (List.mem_of_getElem? (i := 166) rfl)
theorem pn_X2_ringsBell : plainName mX2_ringsBell.1.cls = true := by decide +kernel
def mX2_bandOf : gw_M := (yX2_bandOf, cX2_bandOf, 2, (some .int), 1, 21)
set_option maxRecDepth 20000 in
theorem cb_X2_bandOf : CLb mX2_bandOf 1 := ⟨t1 (List.mem_of_getElem? (i := 163) rfl), t1 (List.mem_of_getElem? (i := 2) rfl), ⟨by decide +kernel, by decide +kernel⟩, by decide +kernel⟩
set_option maxRecDepth 20000 in
theorem im_X2_bandOf : Cond.instanceMethod yX2_bandOf ∈ lw_tbl := t1 (List.mem_of_getElem? (i := 161) rfl)
set_option maxRecDepth 20000 in
theorem se_X2_bandOf : Cond.selects yX2_bandOf.cls yX2_bandOf yX2_bandOf ∈ lw_tbl := t1 (List.mem_of_getElem? (i := 162) rfl)
theorem pn_X2_bandOf : plainName mX2_bandOf.1.cls = true := by decide +kernel
def mX2_bellOf : gw_M := (yX2_bellOf, cX2_bellOf, 2, (some .int), 1, 21)
set_option maxRecDepth 20000 in
theorem cb_X2_bellOf : CLb mX2_bellOf 1 := ⟨t2 (List.mem_of_getElem? (i := 40) rfl), t1 (List.mem_of_getElem? (i := 2) rfl), ⟨by decide +kernel, by decide +kernel⟩, by decide +kernel⟩
set_option maxRecDepth 20000 in
theorem im_X2_bellOf : Cond.instanceMethod yX2_bellOf ∈ lw_tbl := t2 (List.mem_of_getElem? (i := 38) rfl)
set_option maxRecDepth 20000 in
theorem se_X2_bellOf : Cond.selects yX2_bellOf.cls yX2_bellOf yX2_bellOf ∈ lw_tbl := t2 (List.mem_of_getElem? (i := 39) rfl)
theorem pn_X2_bellOf : plainName mX2_bellOf.1.cls = true := by decide +kernel
def mX2_ringerAt : gw_M := (yX2_ringerAt, cX2_ringerAt, 3, (some .int), 0, 0)
set_option maxRecDepth 20000 in
theorem cb_X2_ringerAt : CLb mX2_ringerAt 1 := ⟨t2 (List.mem_of_getElem? (i := 62) rfl), t1 (List.mem_of_getElem? (i := 2) rfl), ⟨by decide +kernel, by decide +kernel⟩, by decide +kernel⟩
set_option maxRecDepth 20000 in
theorem im_X2_ringerAt : Cond.instanceMethod yX2_ringerAt ∈ lw_tbl := t2 (List.mem_of_getElem? (i := 60) rfl)
set_option maxRecDepth 20000 in
theorem se_X2_ringerAt : Cond.selects yX2_ringerAt.cls yX2_ringerAt yX2_ringerAt ∈ lw_tbl := t2 (List.mem_of_getElem? (i := 61) rfl)
theorem pn_X2_ringerAt : plainName mX2_ringerAt.1.cls = true := by decide +kernel
def mX2_rankOf : gw_M := (yX2_rankOf, cX2_rankOf, 4, (some .int), 0, 0)
set_option maxRecDepth 20000 in
theorem cb_X2_rankOf : CLb mX2_rankOf 1 := ⟨t2 (List.mem_of_getElem? (i := 44) rfl), t1 (List.mem_of_getElem? (i := 2) rfl), ⟨by decide +kernel, by decide +kernel⟩, by decide +kernel⟩
set_option maxRecDepth 20000 in
theorem im_X2_rankOf : Cond.instanceMethod yX2_rankOf ∈ lw_tbl := t2 (List.mem_of_getElem? (i := 42) rfl)
set_option maxRecDepth 20000 in
theorem se_X2_rankOf : Cond.selects yX2_rankOf.cls yX2_rankOf yX2_rankOf ∈ lw_tbl := t2 (List.mem_of_getElem? (i := 43) rfl)
theorem pn_X2_rankOf : plainName mX2_rankOf.1.cls = true := by decide +kernel
def mX2_tellOfRinger : gw_M := (yX2_tellOfRinger, cX2_tellOfRinger, 3, (some .int), 2, 42)
set_option maxRecDepth 20000 in
theorem cb_X2_tellOfRinger : CLb mX2_tellOfRinger 2 := ⟨t2 (List.mem_of_getElem? (i := 36) rfl), t1 (List.mem_of_getElem? (i := 2) rfl), ⟨by decide +kernel, by decide +kernel⟩, by decide +kernel⟩
set_option maxRecDepth 20000 in
theorem im_X2_tellOfRinger : Cond.instanceMethod yX2_tellOfRinger ∈ lw_tbl := t2 (List.mem_of_getElem? (i := 34) rfl)
set_option maxRecDepth 20000 in
theorem se_X2_tellOfRinger : Cond.selects yX2_tellOfRinger.cls yX2_tellOfRinger yX2_tellOfRinger ∈ lw_tbl := t2 (List.mem_of_getElem? (i := 35) rfl)
theorem pn_X2_tellOfRinger : plainName mX2_tellOfRinger.1.cls = true := by decide +kernel
def mX2_electBand : gw_M := (yX2_electBand, cX2_electBand, 4, none, 2, 45)
set_option maxRecDepth 20000 in
theorem cb_X2_electBand : CLb mX2_electBand 1 := ⟨t2 (List.mem_of_getElem? (i := 73) rfl), t1 (List.mem_of_getElem? (i := 2) rfl), ⟨by decide +kernel, by decide +kernel⟩, by decide +kernel⟩
set_option maxRecDepth 20000 in
theorem im_X2_electBand : Cond.instanceMethod yX2_electBand ∈ lw_tbl := t2 (List.mem_of_getElem? (i := 71) rfl)
set_option maxRecDepth 20000 in
theorem se_X2_electBand : Cond.selects yX2_electBand.cls yX2_electBand yX2_electBand ∈ lw_tbl := t2 (List.mem_of_getElem? (i := 72) rfl)
theorem pn_X2_electBand : plainName mX2_electBand.1.cls = true := by decide +kernel
def mX2_electTo : gw_M := (yX2_electTo, cX2_electTo, 5, none, 1, 21)
set_option maxRecDepth 20000 in
theorem cb_X2_electTo : CLb mX2_electTo 1 := ⟨t2 (List.mem_of_getElem? (i := 77) rfl), t1 (List.mem_of_getElem? (i := 2) rfl), ⟨by decide +kernel, by decide +kernel⟩, by decide +kernel⟩
set_option maxRecDepth 20000 in
theorem im_X2_electTo : Cond.instanceMethod yX2_electTo ∈ lw_tbl := t2 (List.mem_of_getElem? (i := 76) rfl)
set_option maxRecDepth 20000 in
theorem se_X2_electTo : Cond.selects yX2_electTo.cls yX2_electTo yX2_electTo ∈ lw_tbl := List.mem_append_left _ (List.mem_of_getElem? (i := 3) rfl)
theorem pn_X2_electTo : plainName mX2_electTo.1.cls = true := by decide +kernel
def mX2_ringersIn : gw_M := (yX2_ringersIn, cX2_ringersIn, 4, (some .int), 2, 42)
set_option maxRecDepth 20000 in
theorem cb_X2_ringersIn : CLb mX2_ringersIn 1 := ⟨t1 (List.mem_of_getElem? (i := 159) rfl), t1 (List.mem_of_getElem? (i := 2) rfl), ⟨by decide +kernel, by decide +kernel⟩, by decide +kernel⟩
set_option maxRecDepth 20000 in
theorem im_X2_ringersIn : Cond.instanceMethod yX2_ringersIn ∈ lw_tbl := t1 (List.mem_of_getElem? (i := 157) rfl)
set_option maxRecDepth 20000 in
theorem se_X2_ringersIn : Cond.selects yX2_ringersIn.cls yX2_ringersIn yX2_ringersIn ∈ lw_tbl := t1 (List.mem_of_getElem? (i := 158) rfl)
theorem pn_X2_ringersIn : plainName mX2_ringersIn.1.cls = true := by decide +kernel
def mX2_ringersAtBells : gw_M := (yX2_ringersAtBells, cX2_ringersAtBells, 3, (some .int), 3, 65)
set_option maxRecDepth 20000 in
theorem cb_X2_ringersAtBells : CLb mX2_ringersAtBells 0 := ⟨t1 (List.mem_of_getElem? (i := 155) rfl), t1 (List.mem_of_getElem? (i := 2) rfl), ⟨by decide +kernel, by decide +kernel⟩, by decide +kernel⟩
set_option maxRecDepth 20000 in
theorem im_X2_ringersAtBells : Cond.instanceMethod yX2_ringersAtBells ∈ lw_tbl := t1 (List.mem_of_getElem? (i := 153) rfl)
set_option maxRecDepth 20000 in
theorem se_X2_ringersAtBells : Cond.selects yX2_ringersAtBells.cls yX2_ringersAtBells yX2_ringersAtBells ∈ lw_tbl := t1 (List.mem_of_getElem? (i := 154) rfl)
theorem pn_X2_ringersAtBells : plainName mX2_ringersAtBells.1.cls = true := by decide +kernel
def mX2_fullBands : gw_M := (yX2_fullBands, cX2_fullBands, 3, (some .int), 3, 65)
set_option maxRecDepth 20000 in
theorem cb_X2_fullBands : CLb mX2_fullBands 0 := ⟨t2 (List.mem_of_getElem? (i := 16) rfl), t1 (List.mem_of_getElem? (i := 2) rfl), ⟨by decide +kernel, by decide +kernel⟩, by decide +kernel⟩
set_option maxRecDepth 20000 in
theorem im_X2_fullBands : Cond.instanceMethod yX2_fullBands ∈ lw_tbl := t2 (List.mem_of_getElem? (i := 14) rfl)
set_option maxRecDepth 20000 in
theorem se_X2_fullBands : Cond.selects yX2_fullBands.cls yX2_fullBands yX2_fullBands ∈ lw_tbl := t2 (List.mem_of_getElem? (i := 15) rfl)
theorem pn_X2_fullBands : plainName mX2_fullBands.1.cls = true := by decide +kernel
def mX2_skillAtBells : gw_M := (yX2_skillAtBells, cX2_skillAtBells, 3, (some .int), 1, 21)
set_option maxRecDepth 20000 in
theorem cb_X2_skillAtBells : CLb mX2_skillAtBells 0 := ⟨t1 (List.mem_of_getElem? (i := 171) rfl), t1 (List.mem_of_getElem? (i := 2) rfl), ⟨by decide +kernel, by decide +kernel⟩, by decide +kernel⟩
set_option maxRecDepth 20000 in
theorem im_X2_skillAtBells : Cond.instanceMethod yX2_skillAtBells ∈ lw_tbl := t1 (List.mem_of_getElem? (i := 169) rfl)
set_option maxRecDepth 20000 in
theorem se_X2_skillAtBells : Cond.selects yX2_skillAtBells.cls yX2_skillAtBells yX2_skillAtBells ∈ lw_tbl := t1 (List.mem_of_getElem? (i := 170) rfl)
theorem pn_X2_skillAtBells : plainName mX2_skillAtBells.1.cls = true := by decide +kernel
def mX2_allFaults : gw_M := (yX2_allFaults, cX2_allFaults, 3, (some .int), 0, 0)
set_option maxRecDepth 20000 in
theorem cb_X2_allFaults : CLb mX2_allFaults 0 := ⟨t2 (List.mem_of_getElem? (i := 20) rfl), t1 (List.mem_of_getElem? (i := 2) rfl), ⟨by decide +kernel, by decide +kernel⟩, by decide +kernel⟩
set_option maxRecDepth 20000 in
theorem im_X2_allFaults : Cond.instanceMethod yX2_allFaults ∈ lw_tbl := t2 (List.mem_of_getElem? (i := 18) rfl)
set_option maxRecDepth 20000 in
theorem se_X2_allFaults : Cond.selects yX2_allFaults.cls yX2_allFaults yX2_allFaults ∈ lw_tbl := t2 (List.mem_of_getElem? (i := 19) rfl)
theorem pn_X2_allFaults : plainName mX2_allFaults.1.cls = true := by decide +kernel
def mX2_allVotes : gw_M := (yX2_allVotes, cX2_allVotes, 3, (some .int), 0, 0)
set_option maxRecDepth 20000 in
theorem cb_X2_allVotes : CLb mX2_allVotes 0 := ⟨t2 (List.mem_of_getElem? (i := 24) rfl), t1 (List.mem_of_getElem? (i := 2) rfl), ⟨by decide +kernel, by decide +kernel⟩, by decide +kernel⟩
set_option maxRecDepth 20000 in
theorem im_X2_allVotes : Cond.instanceMethod yX2_allVotes ∈ lw_tbl := t2 (List.mem_of_getElem? (i := 22) rfl)
set_option maxRecDepth 20000 in
theorem se_X2_allVotes : Cond.selects yX2_allVotes.cls yX2_allVotes yX2_allVotes ∈ lw_tbl := t2 (List.mem_of_getElem? (i := 23) rfl)
theorem pn_X2_allVotes : plainName mX2_allVotes.1.cls = true := by decide +kernel
def mX2_isFresh : gw_M := (yX2_isFresh, cX2_isFresh, 4, (some .boolean), 2, 42)
set_option maxRecDepth 20000 in
theorem cb_X2_isFresh : CLb mX2_isFresh 1 := ⟨t3 (List.mem_of_getElem? (i := 87) rfl), t1 (List.mem_of_getElem? (i := 2) rfl), ⟨by decide +kernel, by decide +kernel⟩, by decide +kernel⟩
set_option maxRecDepth 20000 in
theorem im_X2_isFresh : Cond.instanceMethod yX2_isFresh ∈ lw_tbl := t3 (List.mem_of_getElem? (i := 85) rfl)
set_option maxRecDepth 20000 in
theorem se_X2_isFresh : Cond.selects yX2_isFresh.cls yX2_isFresh yX2_isFresh ∈ lw_tbl := t3 (List.mem_of_getElem? (i := 86) rfl)
theorem pn_X2_isFresh : plainName mX2_isFresh.1.cls = true := by decide +kernel
def mX2_ringTouch : gw_M := (yX2_ringTouch, cX2_ringTouch, 9, (some .int), 3, 65)
set_option maxRecDepth 20000 in
theorem cb_X2_ringTouch : CLb mX2_ringTouch 4 := ⟨t3 (List.mem_of_getElem? (i := 92) rfl), t1 (List.mem_of_getElem? (i := 2) rfl), ⟨by decide +kernel, by decide +kernel⟩, by decide +kernel⟩
set_option maxRecDepth 20000 in
theorem im_X2_ringTouch : Cond.instanceMethod yX2_ringTouch ∈ lw_tbl := t3 (List.mem_of_getElem? (i := 90) rfl)
set_option maxRecDepth 20000 in
theorem se_X2_ringTouch : Cond.selects yX2_ringTouch.cls yX2_ringTouch yX2_ringTouch ∈ lw_tbl := t3 (List.mem_of_getElem? (i := 91) rfl)
theorem pn_X2_ringTouch : plainName mX2_ringTouch.1.cls = true := by decide +kernel
def mX2_tireDodgers : gw_M := (yX2_tireDodgers, cX2_tireDodgers, 4, none, 2, 42)
set_option maxRecDepth 20000 in
theorem cb_X2_tireDodgers : CLb mX2_tireDodgers 2 := ⟨t3 (List.mem_of_getElem? (i := 100) rfl), t1 (List.mem_of_getElem? (i := 2) rfl), ⟨by decide +kernel, by decide +kernel⟩, by decide +kernel⟩
set_option maxRecDepth 20000 in
theorem im_X2_tireDodgers : Cond.instanceMethod yX2_tireDodgers ∈ lw_tbl := t3 (List.mem_of_getElem? (i := 99) rfl)
set_option maxRecDepth 20000 in
theorem se_X2_tireDodgers : Cond.selects yX2_tireDodgers.cls yX2_tireDodgers yX2_tireDodgers ∈ lw_tbl := List.mem_append_left _ (List.mem_of_getElem? (i := 11) rfl)
theorem pn_X2_tireDodgers : plainName mX2_tireDodgers.1.cls = true := by decide +kernel
def mX2_tire : gw_M := (yX2_tire, cX2_tire, 2, none, 1, 21)
set_option maxRecDepth 20000 in
theorem cb_X2_tire : CLb mX2_tire 1 := ⟨t3 (List.mem_of_getElem? (i := 105) rfl), t1 (List.mem_of_getElem? (i := 2) rfl), ⟨by decide +kernel, by decide +kernel⟩, by decide +kernel⟩
set_option maxRecDepth 20000 in
theorem im_X2_tire : Cond.instanceMethod yX2_tire ∈ lw_tbl := t3 (List.mem_of_getElem? (i := 104) rfl)
set_option maxRecDepth 20000 in
theorem se_X2_tire : Cond.selects yX2_tire.cls yX2_tire yX2_tire ∈ lw_tbl := List.mem_append_left _ (List.mem_of_getElem? (i := 12) rfl)
theorem pn_X2_tire : plainName mX2_tire.1.cls = true := by decide +kernel
def mX2_passDays : gw_M := (yX2_passDays, cX2_passDays, 3, none, 4, 90)
set_option maxRecDepth 20000 in
theorem cb_X2_passDays : CLb mX2_passDays 1 := ⟨t3 (List.mem_of_getElem? (i := 141) rfl), t1 (List.mem_of_getElem? (i := 2) rfl), ⟨by decide +kernel, by decide +kernel⟩, by decide +kernel⟩
set_option maxRecDepth 20000 in
theorem im_X2_passDays : Cond.instanceMethod yX2_passDays ∈ lw_tbl := t3 (List.mem_of_getElem? (i := 139) rfl)
set_option maxRecDepth 20000 in
theorem se_X2_passDays : Cond.selects yX2_passDays.cls yX2_passDays yX2_passDays ∈ lw_tbl := t3 (List.mem_of_getElem? (i := 140) rfl)
theorem pn_X2_passDays : plainName mX2_passDays.1.cls = true := by decide +kernel
def mX2_passDay : gw_M := (yX2_passDay, cX2_passDay, 3, none, 3, 68)
set_option maxRecDepth 20000 in
theorem cb_X2_passDay : CLb mX2_passDay 0 := ⟨t3 (List.mem_of_getElem? (i := 145) rfl), t1 (List.mem_of_getElem? (i := 2) rfl), ⟨by decide +kernel, by decide +kernel⟩, by decide +kernel⟩
set_option maxRecDepth 20000 in
theorem im_X2_passDay : Cond.instanceMethod yX2_passDay ∈ lw_tbl := t3 (List.mem_of_getElem? (i := 144) rfl)
set_option maxRecDepth 20000 in
theorem se_X2_passDay : Cond.selects yX2_passDay.cls yX2_passDay yX2_passDay ∈ lw_tbl := List.mem_append_left _ (List.mem_of_getElem? (i := 14) rfl)
theorem pn_X2_passDay : plainName mX2_passDay.1.cls = true := by decide +kernel
def mX2_seatedUnlike : gw_M := (yX2_seatedUnlike, cX2_seatedUnlike, 4, (some .int), 0, 0)
set_option maxRecDepth 20000 in
theorem cb_X2_seatedUnlike : CLb mX2_seatedUnlike 1 := ⟨t3 (List.mem_of_getElem? (i := 150) rfl), t1 (List.mem_of_getElem? (i := 2) rfl), ⟨by decide +kernel, by decide +kernel⟩, by decide +kernel⟩
set_option maxRecDepth 20000 in
theorem im_X2_seatedUnlike : Cond.instanceMethod yX2_seatedUnlike ∈ lw_tbl := t3 (List.mem_of_getElem? (i := 148) rfl)
set_option maxRecDepth 20000 in
theorem se_X2_seatedUnlike : Cond.selects yX2_seatedUnlike.cls yX2_seatedUnlike yX2_seatedUnlike ∈ lw_tbl := t3 (List.mem_of_getElem? (i := 149) rfl)
theorem pn_X2_seatedUnlike : plainName mX2_seatedUnlike.1.cls = true := by decide +kernel
def mX4_init : gw_M := (yX4_init, cX4_init, 2, none, 1, 20)
set_option maxRecDepth 20000 in
theorem cb_X4_init : CLb mX4_init 1 := ⟨t3 (List.mem_of_getElem? (i := 168) rfl), t1 (List.mem_of_getElem? (i := 6) rfl), ⟨by decide +kernel, by decide +kernel⟩, by decide +kernel⟩
set_option maxRecDepth 20000 in
theorem im_X4_init : Cond.instanceMethod yX4_init ∈ lw_tbl := t3 (List.mem_of_getElem? (i := 167) rfl)
theorem pn_X4_init : plainName mX4_init.1.cls = true := by decide +kernel
def mX4_copy : gw_M := (yX4_copy, cX4_copy, 3, none, 1, 60)
set_option maxRecDepth 20000 in
theorem cb_X4_copy : CLb mX4_copy 2 := ⟨t4 (List.mem_of_getElem? (i := 96) rfl), t1 (List.mem_of_getElem? (i := 6) rfl), ⟨by decide +kernel, by decide +kernel⟩, by decide +kernel⟩
set_option maxRecDepth 20000 in
theorem im_X4_copy : Cond.instanceMethod yX4_copy ∈ lw_tbl := t4 (List.mem_of_getElem? (i := 95) rfl)
set_option maxRecDepth 20000 in
theorem se_X4_copy : Cond.selects yX4_copy.cls yX4_copy yX4_copy ∈ lw_tbl := List.mem_append_left _ (List.mem_of_getElem? (i := 19) rfl)
theorem pn_X4_copy : plainName mX4_copy.1.cls = true := by decide +kernel
def mX4_become : gw_M := (yX4_become, cX4_become, 2, (some (.object "BellRosterModel$State")), 2, 82)
set_option maxRecDepth 20000 in
theorem cb_X4_become : CLb mX4_become 1 := ⟨t4 (List.mem_of_getElem? (i := 92) rfl), t1 (List.mem_of_getElem? (i := 6) rfl), ⟨by decide +kernel, by decide +kernel⟩, by decide +kernel⟩
set_option maxRecDepth 20000 in
theorem im_X4_become : Cond.instanceMethod yX4_become ∈ lw_tbl := t4 (List.mem_of_getElem? (i := 90) rfl)
set_option maxRecDepth 20000 in
theorem se_X4_become : Cond.selects yX4_become.cls yX4_become yX4_become ∈ lw_tbl := t4 (List.mem_of_getElem? (i := 91) rfl)
theorem pn_X4_become : plainName mX4_become.1.cls = true := by decide +kernel
def mX4_ringerOf : gw_M := (yX4_ringerOf, cX4_ringerOf, 3, (some .int), 0, 0)
set_option maxRecDepth 20000 in
theorem cb_X4_ringerOf : CLb mX4_ringerOf 1 := ⟨t4 (List.mem_of_getElem? (i := 68) rfl), t1 (List.mem_of_getElem? (i := 6) rfl), ⟨by decide +kernel, by decide +kernel⟩, by decide +kernel⟩
set_option maxRecDepth 20000 in
theorem im_X4_ringerOf : Cond.instanceMethod yX4_ringerOf ∈ lw_tbl := t4 (List.mem_of_getElem? (i := 66) rfl)
set_option maxRecDepth 20000 in
theorem se_X4_ringerOf : Cond.selects yX4_ringerOf.cls yX4_ringerOf yX4_ringerOf ∈ lw_tbl := t4 (List.mem_of_getElem? (i := 67) rfl)
theorem pn_X4_ringerOf : plainName mX4_ringerOf.1.cls = true := by decide +kernel
def mX4_elect : gw_M := (yX4_elect, cX4_elect, 5, (some (.object "BellRosterModel$State")), 0, 0)
set_option maxRecDepth 20000 in
theorem cb_X4_elect : CLb mX4_elect 1 := ⟨t4 (List.mem_of_getElem? (i := 56) rfl), t1 (List.mem_of_getElem? (i := 6) rfl), ⟨by decide +kernel, by decide +kernel⟩, by decide +kernel⟩
set_option maxRecDepth 20000 in
theorem im_X4_elect : Cond.instanceMethod yX4_elect ∈ lw_tbl := t4 (List.mem_of_getElem? (i := 54) rfl)
set_option maxRecDepth 20000 in
theorem se_X4_elect : Cond.selects yX4_elect.cls yX4_elect yX4_elect ∈ lw_tbl := t4 (List.mem_of_getElem? (i := 55) rfl)
theorem pn_X4_elect : plainName mX4_elect.1.cls = true := by decide +kernel
def mX4_manned : gw_M := (yX4_manned, cX4_manned, 4, (some .int), 0, 0)
set_option maxRecDepth 20000 in
theorem cb_X4_manned : CLb mX4_manned 1 := ⟨t4 (List.mem_of_getElem? (i := 60) rfl), t1 (List.mem_of_getElem? (i := 6) rfl), ⟨by decide +kernel, by decide +kernel⟩, by decide +kernel⟩
set_option maxRecDepth 20000 in
theorem im_X4_manned : Cond.instanceMethod yX4_manned ∈ lw_tbl := t4 (List.mem_of_getElem? (i := 58) rfl)
set_option maxRecDepth 20000 in
theorem se_X4_manned : Cond.selects yX4_manned.cls yX4_manned yX4_manned ∈ lw_tbl := t4 (List.mem_of_getElem? (i := 59) rfl)
theorem pn_X4_manned : plainName mX4_manned.1.cls = true := by decide +kernel
def mX4_canRing : gw_M := (yX4_canRing, cX4_canRing, 4, (some .boolean), 1, 23)
set_option maxRecDepth 20000 in
theorem cb_X4_canRing : CLb mX4_canRing 2 := ⟨t4 (List.mem_of_getElem? (i := 161) rfl), t1 (List.mem_of_getElem? (i := 6) rfl), ⟨by decide +kernel, by decide +kernel⟩, by decide +kernel⟩
set_option maxRecDepth 20000 in
theorem im_X4_canRing : Cond.instanceMethod yX4_canRing ∈ lw_tbl := t4 (List.mem_of_getElem? (i := 159) rfl)
set_option maxRecDepth 20000 in
theorem se_X4_canRing : Cond.selects yX4_canRing.cls yX4_canRing yX4_canRing ∈ lw_tbl := t4 (List.mem_of_getElem? (i := 160) rfl)
theorem pn_X4_canRing : plainName mX4_canRing.1.cls = true := by decide +kernel
def mX4_ring : gw_M := (yX4_ring, cX4_ring, 9, (some .int), 3, 74)
set_option maxRecDepth 20000 in
theorem cb_X4_ring : CLb mX4_ring 3 := ⟨t4 (List.mem_of_getElem? (i := 166) rfl), t1 (List.mem_of_getElem? (i := 6) rfl), ⟨by decide +kernel, by decide +kernel⟩, by decide +kernel⟩
set_option maxRecDepth 20000 in
theorem im_X4_ring : Cond.instanceMethod yX4_ring ∈ lw_tbl := t4 (List.mem_of_getElem? (i := 164) rfl)
set_option maxRecDepth 20000 in
theorem se_X4_ring : Cond.selects yX4_ring.cls yX4_ring yX4_ring ∈ lw_tbl := t4 (List.mem_of_getElem? (i := 165) rfl)
theorem pn_X4_ring : plainName mX4_ring.1.cls = true := by decide +kernel
def mX4_pass : gw_M := (yX4_pass, cX4_pass, 2, none, 1, 24)
set_option maxRecDepth 20000 in
theorem cb_X4_pass : CLb mX4_pass 0 := ⟨t4 (List.mem_of_getElem? (i := 213) rfl), t1 (List.mem_of_getElem? (i := 6) rfl), ⟨by decide +kernel, by decide +kernel⟩, by decide +kernel⟩
set_option maxRecDepth 20000 in
theorem im_X4_pass : Cond.instanceMethod yX4_pass ∈ lw_tbl := t4 (List.mem_of_getElem? (i := 211) rfl)
set_option maxRecDepth 20000 in
theorem se_X4_pass : Cond.selects yX4_pass.cls yX4_pass yX4_pass ∈ lw_tbl := t4 (List.mem_of_getElem? (i := 212) rfl)
theorem pn_X4_pass : plainName mX4_pass.1.cls = true := by decide +kernel
def mX4_pass_ : gw_M := (yX4_pass_, cX4_pass_, 3, none, 2, 45)
set_option maxRecDepth 20000 in
theorem cb_X4_pass_ : CLb mX4_pass_ 1 := ⟨t4 (List.mem_of_getElem? (i := 209) rfl), t1 (List.mem_of_getElem? (i := 6) rfl), ⟨by decide +kernel, by decide +kernel⟩, by decide +kernel⟩
set_option maxRecDepth 20000 in
theorem im_X4_pass_ : Cond.instanceMethod yX4_pass_ ∈ lw_tbl := t4 (List.mem_of_getElem? (i := 207) rfl)
set_option maxRecDepth 20000 in
theorem se_X4_pass_ : Cond.selects yX4_pass_.cls yX4_pass_ yX4_pass_ ∈ lw_tbl := t4 (List.mem_of_getElem? (i := 208) rfl)
theorem pn_X4_pass_ : plainName mX4_pass_.1.cls = true := by decide +kernel
def mX4_allVotes : gw_M := (yX4_allVotes, cX4_allVotes, 3, (some .int), 0, 0)
set_option maxRecDepth 20000 in
theorem cb_X4_allVotes : CLb mX4_allVotes 0 := ⟨t4 (List.mem_of_getElem? (i := 182) rfl), t1 (List.mem_of_getElem? (i := 6) rfl), ⟨by decide +kernel, by decide +kernel⟩, by decide +kernel⟩
set_option maxRecDepth 20000 in
theorem im_X4_allVotes : Cond.instanceMethod yX4_allVotes ∈ lw_tbl := t4 (List.mem_of_getElem? (i := 180) rfl)
set_option maxRecDepth 20000 in
theorem se_X4_allVotes : Cond.selects yX4_allVotes.cls yX4_allVotes yX4_allVotes ∈ lw_tbl := t4 (List.mem_of_getElem? (i := 181) rfl)
theorem pn_X4_allVotes : plainName mX4_allVotes.1.cls = true := by decide +kernel
def mJ9_max_7cf53 : gw_M := (yJ9_max_7cf53, cJ9_max_7cf53, 2, (some .int), 0, 0)
set_option maxRecDepth 20000 in
theorem cb_J9_max_7cf53 : CLb mJ9_max_7cf53 2 := ⟨t2 (List.mem_of_getElem? (i := 171) rfl), t1 (List.mem_of_getElem? (i := 13) rfl), ⟨by decide +kernel, by decide +kernel⟩, by decide +kernel⟩
set_option maxRecDepth 20000 in
theorem st_J9_max_7cf53 : Cond.static yJ9_max_7cf53 ∈ lw_tbl := t2 (List.mem_of_getElem? (i := 170) rfl)
def mJ9_min_7cf53 : gw_M := (yJ9_min_7cf53, cJ9_min_7cf53, 2, (some .int), 0, 0)
set_option maxRecDepth 20000 in
theorem cb_J9_min_7cf53 : CLb mJ9_min_7cf53 2 := ⟨t2 (List.mem_of_getElem? (i := 168) rfl), t1 (List.mem_of_getElem? (i := 13) rfl), ⟨by decide +kernel, by decide +kernel⟩, by decide +kernel⟩
set_option maxRecDepth 20000 in
theorem st_J9_min_7cf53 : Cond.static yJ9_min_7cf53 ∈ lw_tbl := t2 (List.mem_of_getElem? (i := 167) rfl)
def mJ7_fill_53178 : gw_M := (yJ7_fill_53178, cJ7_fill_53178, 4, none, 0, 0)
set_option maxRecDepth 20000 in
theorem cb_J7_fill_53178 : CLb mJ7_fill_53178 2 := ⟨t3 (List.mem_of_getElem? (i := 2) rfl), t1 (List.mem_of_getElem? (i := 15) rfl), ⟨by decide +kernel, by decide +kernel⟩, by decide +kernel⟩
set_option maxRecDepth 20000 in
theorem st_J7_fill_53178 : Cond.static yJ7_fill_53178 ∈ lw_tbl := t3 (List.mem_of_getElem? (i := 1) rfl)
theorem pn_J7_fill_53178 : plainName mJ7_fill_53178.1.cls = true := by decide +kernel
def mJ7_fill_d0a16 : gw_M := (yJ7_fill_d0a16, cJ7_fill_d0a16, 5, none, 0, 0)
set_option maxRecDepth 20000 in
theorem cb_J7_fill_d0a16 : CLb mJ7_fill_d0a16 2 := ⟨t3 (List.mem_of_getElem? (i := 9) rfl), t1 (List.mem_of_getElem? (i := 15) rfl), ⟨by decide +kernel, by decide +kernel⟩, by decide +kernel⟩
set_option maxRecDepth 20000 in
theorem st_J7_fill_d0a16 : Cond.static yJ7_fill_d0a16 ∈ lw_tbl := t3 (List.mem_of_getElem? (i := 8) rfl)
theorem pn_J7_fill_d0a16 : plainName mJ7_fill_d0a16.1.cls = true := by decide +kernel
set_option maxRecDepth 20000 in
theorem ts_45_47_49 : TS RX3 45 47 49 "java/lang/IllegalStateException" "there are 20 ringers" := ⟨rfl, by decide +kernel, by decide +kernel, t2 (List.mem_of_getElem? (i := 135) rfl), t1 (List.mem_of_getElem? (i := 12) rfl), by decide +kernel, by decide +kernel⟩
set_option maxRecDepth 20000 in
theorem ts_45_84_49 : TS RX3 45 84 49 "java/lang/IllegalStateException" "the bell has a ringer" := ⟨rfl, by decide +kernel, by decide +kernel, t2 (List.mem_of_getElem? (i := 135) rfl), t1 (List.mem_of_getElem? (i := 12) rfl), by decide +kernel, by decide +kernel⟩
set_option maxRecDepth 20000 in
theorem ts_45_90_49 : TS RX3 45 90 49 "java/lang/IllegalStateException" "the ringer rings a bell" := ⟨rfl, by decide +kernel, by decide +kernel, t2 (List.mem_of_getElem? (i := 135) rfl), t1 (List.mem_of_getElem? (i := 12) rfl), by decide +kernel, by decide +kernel⟩
set_option maxRecDepth 20000 in
theorem ts_45_95_49 : TS RX3 45 95 49 "java/lang/IllegalStateException" "the ringer rings no bell" := ⟨rfl, by decide +kernel, by decide +kernel, t2 (List.mem_of_getElem? (i := 135) rfl), t1 (List.mem_of_getElem? (i := 12) rfl), by decide +kernel, by decide +kernel⟩
set_option maxRecDepth 20000 in
theorem ts_45_113_49 : TS RX3 45 113 49 "java/lang/IllegalStateException" "there are 5 methods" := ⟨rfl, by decide +kernel, by decide +kernel, t2 (List.mem_of_getElem? (i := 135) rfl), t1 (List.mem_of_getElem? (i := 12) rfl), by decide +kernel, by decide +kernel⟩
set_option maxRecDepth 20000 in
theorem ts_119_121_123 : TS RX3 119 121 123 "java/lang/IllegalArgumentException" "a place is in two pairs" := ⟨rfl, by decide +kernel, by decide +kernel, t2 (List.mem_of_getElem? (i := 119) rfl), t1 (List.mem_of_getElem? (i := 11) rfl), by decide +kernel, by decide +kernel⟩
set_option maxRecDepth 20000 in
theorem ts_45_127_49 : TS RX3 45 127 49 "java/lang/IllegalStateException" "the method has 12 changes" := ⟨rfl, by decide +kernel, by decide +kernel, t2 (List.mem_of_getElem? (i := 135) rfl), t1 (List.mem_of_getElem? (i := 12) rfl), by decide +kernel, by decide +kernel⟩
set_option maxRecDepth 20000 in
theorem ts_45_139_49 : TS RX3 45 139 49 "java/lang/IllegalStateException" "the method is empty" := ⟨rfl, by decide +kernel, by decide +kernel, t2 (List.mem_of_getElem? (i := 135) rfl), t1 (List.mem_of_getElem? (i := 12) rfl), by decide +kernel, by decide +kernel⟩
set_option maxRecDepth 20000 in
theorem ts_45_161_49 : TS RX3 45 161 49 "java/lang/IllegalStateException" "the band cannot ring this method" := ⟨rfl, by decide +kernel, by decide +kernel, t2 (List.mem_of_getElem? (i := 135) rfl), t1 (List.mem_of_getElem? (i := 12) rfl), by decide +kernel, by decide +kernel⟩
set_option maxRecDepth 20000 in
theorem ts_237_239_241 : TS RX3 237 239 241 "java/lang/IndexOutOfBoundsException" "there is no such number" := ⟨rfl, by decide +kernel, by decide +kernel, t1 (List.mem_of_getElem? (i := 185) rfl), t1 (List.mem_of_getElem? (i := 10) rfl), by decide +kernel, by decide +kernel⟩
set_option maxRecDepth 20000 in
theorem ts_119_242_123 : TS RX3 119 242 123 "java/lang/IllegalArgumentException" "outside of what is allowed" := ⟨rfl, by decide +kernel, by decide +kernel, t2 (List.mem_of_getElem? (i := 119) rfl), t1 (List.mem_of_getElem? (i := 11) rfl), by decide +kernel, by decide +kernel⟩
end
section
/-! loops, numbers, branches over numbers -/
def itr {σ : Type} (f : Nat → σ → σ) : Nat → σ → σ
  | 0, s => s
  | k + 1, s => f k (itr f k s)
theorem g_for {σ : Type} {P : Nat → σ → Prop} {step : Nat → σ → σ} (N : Nat) (s0 : σ) (hb : ∀ i s, i < N → s = itr step i s0 → P (i + 1) (step i s) → P i s) (hx : P N (itr step N s0)) : P 0 s0 := by
  have h : ∀ k, k ≤ N → P (N - k) (itr step (N - k) s0) := by
    intro k
    induction k with
    | zero => intro _; exact hx
    | succ k ih =>
      intro hk
      have h1 := ih (by omega)
      have e : N - k = (N - (k + 1)) + 1 := by omega
      rw [e] at h1
      exact hb _ _ (by omega) rfl h1
  have h1 := h N (Nat.le_refl N)
  rw [Nat.sub_self] at h1
  exact h1
theorem g_cg {X : gw_X} {pc : Nat} {L L' : List (Option Value)} {S : List Value} {h h' : gw_H} {n kc ks : Nat} (hL : L = L') (hh : h = h') (k : GW X pc L' S h' n kc ks) : GW X pc L S h n kc ks := by subst hL; subst hh; exact k
theorem g_cv {X : gw_X} {pc : Nat} {L L' : List (Option Value)} {S : List Value} {h h' : gw_H} {n kc ks : Nat} (k : GW X pc L S h n kc ks) (hL : L' = L) (hh : h' = h) : GW X pc L' S h' n kc ks := by subst hL; subst hh; exact k
theorem g_top {X : gw_X} {pc : Nat} {L : List (Option Value)} {v v' : Value} {S : List Value} {h : gw_H} {n kc ks : Nat} (hv : v = v') (k : GW X pc L (v' :: S) h n kc ks) : GW X pc L (v :: S) h n kc ks := by subst hv; exact k
theorem gn_inc (a c : Nat) : nI a + Int32.ofInt (c : Int) = nI (a + c) := by
  rw [← nI_add]
  congr 1
theorem gn_z {p : Prop} [Decidable p] : narrow .boolean (.int (if p then nI 1 else nI 0)) = .int (if p then nI 1 else nI 0) := by split <;> rfl
theorem hs_hs (h : gw_H) (k : Nat) (a b : gw_E) : hs (hs h k a) k b = hs h k b := by
  funext j; unfold hs; split <;> rfl
theorem hs_cm (h : gw_H) {k j : Nat} (a b : gw_E) (hkj : k < j) : hs (hs h j b) k a = hs (hs h k a) j b := by
  funext i; unfold hs
  by_cases h1 : i = k
  · subst h1; rw [if_pos rfl, if_neg (by omega), if_pos rfl]
  · rw [if_neg h1, if_neg h1]
theorem hs_id {h : gw_H} {k : Nat} {e : gw_E} (he : h k = e) : hs h k e = h := by
  funext j; unfold hs
  split
  · next q => rw [q, he]
  · rfl
/-- one answer, one heap -/
def PQ (r : Option Value) (H : gw_H) (N : Nat) : Option Value → gw_H → Nat → Prop := fun rv h' n' => rv = r ∧ h' = H ∧ n' = N
theorem pq {X : gw_X} {pc n N kc ks : Nat} {L : List (Option Value)} {S : List Value} {r : Option Value} {H : gw_H} (k : GW X pc L (r.toList ++ S) H N kc ks) : ∀ (rv : Option Value) (h' : gw_H) (n' : Nat), n ≤ n' → PQ r H N rv h' n' → GW X pc L (rv.toList ++ S) h' n' kc ks := by
  rintro _ _ _ - ⟨rfl, rfl, rfl⟩
  exact k
def PXQ (E : String) (H : gw_H) (N : Nat) : String → gw_H → Nat → Prop := fun E' h' n' => E' = E ∧ h' = H ∧ n' = N
theorem px {X : gw_X} {pc n N kc ks : Nat} {L : List (Option Value)} {E : String} {H : gw_H} (k : GX X pc L E H N kc ks) : ∀ (E' : String) (h' : gw_H) (n' : Nat), n ≤ n' → PXQ E H N E' h' n' → GX X pc L E' h' n' kc ks := by
  rintro _ _ _ - ⟨rfl, rfl, rfl⟩
  exact k
theorem g_loop {P : Nat → Prop} (I : Nat → Prop) (N : Nat) (h0 : I 0) (hb : ∀ i, i < N → I i → (I (i + 1) → P (i + 1)) → P i) (hx : I N → P N) : P 0 := by
  have h : ∀ k, k ≤ N → I (N - k) → P (N - k) := by
    intro k
    induction k with
    | zero => intro _; exact hx
    | succ k ih =>
      intro hk hI
      have h1 := ih (by omega)
      have e : N - k = (N - (k + 1)) + 1 := by omega
      rw [e] at h1
      exact hb _ (by omega) hI h1
  have h1 := h N (Nat.le_refl N)
  rw [Nat.sub_self] at h1
  exact h1 h0
/-- an array's cell by what its places hold -/
theorem g_ext {X : gw_X} {pc : Nat} {L : List (Option Value)} {S : List Value} {h : gw_H} {n kc ks a len : Nat} {f g : Nat → Int32} (hfg : ∀ k, k < len → f k = g k) (k : GW X pc L S (hs h a (aI len g)) n kc ks) : GW X pc L S (hs h a (aI len f)) n kc ks := by
  obtain ⟨p, l1, e, R, s, m, args, below, meth, c, A, Q, K1, ad0, n0⟩ := X
  intro ad H locs ls hR hS ha hn hL hv
  refine k ad H locs ls ?_ hS ha hn hL hv
  have e1 : arrV K1.2.1 len (fun j => Value.int (f j)) = arrV K1.2.1 len (fun j => Value.int (g j)) := by
    unfold arrV
    congr 2
    funext j
    show Value.int (f j.val) = Value.int (g j.val)
    rw [hfg j.val j.isLt]
  obtain ⟨h1, h2, h3⟩ := hR
  have hat : ∀ (j : Nat) (q : Nat × va_E), (gw_ws K1 ad n (hs h a (aI len g)))[j]? = some q → ∃ q', (gw_ws K1 ad n (hs h a (aI len f)))[j]? = some q' ∧ q'.1 = q.1 ∧ ∀ H, va_at K1.1 vwCl q' H → va_at K1.1 vwCl q H := fun j q hq => by
    obtain ⟨hj, rfl⟩ := gw_ws_lt hq
    refine ⟨_, gw_ws_at hj, rfl, fun H hH => ?_⟩
    by_cases q : j = a
    · subst q
      rw [hs_eq] at hH ⊢
      show H[ad j]? = some (arrV K1.2.1 len (fun i => Value.int (g i)))
      rw [← e1]; exact hH
    · rw [hs_ne q] at hH ⊢
      exact hH
  refine ⟨fun j q hq => ?_, ⟨fun i j p q hi hj he => ?_, fun j q hq => ?_⟩, fun j hj => ?_⟩
  · obtain ⟨q', g1, g2, g3⟩ := hat j q hq
    exact g3 H (h1 j q' g1)
  · obtain ⟨p', g1, g2, -⟩ := hat i p hi
    obtain ⟨q', g3, g4, -⟩ := hat j q hj
    exact h2.1 i j p' q' g1 g3 (by rw [g2, g4]; exact he)
  · obtain ⟨q', g1, g2, -⟩ := hat j q hq
    rw [← g2]; exact h2.2 j q' g1
  · have := h3 j hj
    by_cases q : j = a
    · subst q; rw [hs_eq]; trivial
    · rw [hs_ne q] at this ⊢; exact this

theorem gn_eq {a b : Nat} (h : a < 2147483648 ∧ b < 2147483648) : nI a = nI b ↔ a = b := nI_eq (by omega) (by omega)
theorem gn_lt {a b : Nat} (h : a < 2147483648 ∧ b < 2147483648) : nI a < nI b ↔ a < b := nI_ltI (by omega) (by omega)
theorem gn_le {a b : Nat} (h : a < 2147483648 ∧ b < 2147483648) : nI a ≤ nI b ↔ a ≤ b := nI_leI (by omega) (by omega)
theorem gn_ile {x y : Int32} : ¬ x < y ↔ y ≤ x := by rw [Int32.not_lt]
theorem gn_ilt {x y : Int32} : ¬ x ≤ y ↔ y < x := by rw [Int32.not_le]
theorem g_icmp_eqN {l : Launch} {K : gw_K} {X : gw_X} {cc : ByteArray} {own : String} {F Lo MC MS pc : Nat} {L : List (Option Value)} {S : List Value} {h : gw_H} {n kc ks : Nat} {a b : Nat} {off : Int} {tgt : Nat} (hX : FX l K X cc own F Lo MC MS) (hd : decode cc pc = .ok (.if_icmp .eq off, 3)) (ht : (pc : Int) + off = (tgt : Int)) (hab : a < 2147483648 ∧ b < 2147483648) (kt : a = b → GW X tgt L S h n kc ks) (kf : ¬ a = b → GW X (pc + 3) L S h n kc ks) : GW X pc L (.int (nI b) :: .int (nI a) :: S) h n kc ks :=
  g_icmp_eq hX hd ht (fun q => kt ((gn_eq hab).mp q)) (fun q => kf (fun z => q ((gn_eq hab).mpr z)))
theorem g_if_eqN {l : Launch} {K : gw_K} {X : gw_X} {cc : ByteArray} {own : String} {F Lo MC MS pc : Nat} {L : List (Option Value)} {S : List Value} {h : gw_H} {n kc ks : Nat} {a : Nat} {off : Int} {tgt : Nat} (hX : FX l K X cc own F Lo MC MS) (hd : decode cc pc = .ok (.ifCond .eq off, 3)) (ht : (pc : Int) + off = (tgt : Int)) (hab : a < 2147483648) (kt : a = 0 → GW X tgt L S h n kc ks) (kf : ¬ a = 0 → GW X (pc + 3) L S h n kc ks) : GW X pc L (.int (nI a) :: S) h n kc ks := by
  have hab : a < 2147483648 ∧ 0 < 2147483648 := ⟨hab, by omega⟩
  exact g_if_eq hX hd ht (fun q => kt ((gn_eq hab).mp q)) (fun q => kf (fun z => q ((gn_eq hab).mpr z)))
theorem g_icmp_neN {l : Launch} {K : gw_K} {X : gw_X} {cc : ByteArray} {own : String} {F Lo MC MS pc : Nat} {L : List (Option Value)} {S : List Value} {h : gw_H} {n kc ks : Nat} {a b : Nat} {off : Int} {tgt : Nat} (hX : FX l K X cc own F Lo MC MS) (hd : decode cc pc = .ok (.if_icmp .ne off, 3)) (ht : (pc : Int) + off = (tgt : Int)) (hab : a < 2147483648 ∧ b < 2147483648) (kt : ¬ a = b → GW X tgt L S h n kc ks) (kf : a = b → GW X (pc + 3) L S h n kc ks) : GW X pc L (.int (nI b) :: .int (nI a) :: S) h n kc ks :=
  g_icmp_ne hX hd ht (fun q => kt (fun z => q ((gn_eq hab).mpr z))) (fun q => kf ((gn_eq hab).mp q))
theorem g_if_neN {l : Launch} {K : gw_K} {X : gw_X} {cc : ByteArray} {own : String} {F Lo MC MS pc : Nat} {L : List (Option Value)} {S : List Value} {h : gw_H} {n kc ks : Nat} {a : Nat} {off : Int} {tgt : Nat} (hX : FX l K X cc own F Lo MC MS) (hd : decode cc pc = .ok (.ifCond .ne off, 3)) (ht : (pc : Int) + off = (tgt : Int)) (hab : a < 2147483648) (kt : ¬ a = 0 → GW X tgt L S h n kc ks) (kf : a = 0 → GW X (pc + 3) L S h n kc ks) : GW X pc L (.int (nI a) :: S) h n kc ks := by
  have hab : a < 2147483648 ∧ 0 < 2147483648 := ⟨hab, by omega⟩
  exact g_if_ne hX hd ht (fun q => kt (fun z => q ((gn_eq hab).mpr z))) (fun q => kf ((gn_eq hab).mp q))
theorem g_icmp_ltN {l : Launch} {K : gw_K} {X : gw_X} {cc : ByteArray} {own : String} {F Lo MC MS pc : Nat} {L : List (Option Value)} {S : List Value} {h : gw_H} {n kc ks : Nat} {a b : Nat} {off : Int} {tgt : Nat} (hX : FX l K X cc own F Lo MC MS) (hd : decode cc pc = .ok (.if_icmp .lt off, 3)) (ht : (pc : Int) + off = (tgt : Int)) (hab : a < 2147483648 ∧ b < 2147483648) (kt : a < b → GW X tgt L S h n kc ks) (kf : b ≤ a → GW X (pc + 3) L S h n kc ks) : GW X pc L (.int (nI b) :: .int (nI a) :: S) h n kc ks :=
  g_icmp_lt hX hd ht (fun q => kt ((gn_lt hab).mp q)) (fun q => kf (Nat.not_lt.mp fun z => q ((gn_lt hab).mpr z)))
theorem g_if_ltN {l : Launch} {K : gw_K} {X : gw_X} {cc : ByteArray} {own : String} {F Lo MC MS pc : Nat} {L : List (Option Value)} {S : List Value} {h : gw_H} {n kc ks : Nat} {a : Nat} {off : Int} {tgt : Nat} (hX : FX l K X cc own F Lo MC MS) (hd : decode cc pc = .ok (.ifCond .lt off, 3)) (ht : (pc : Int) + off = (tgt : Int)) (hab : a < 2147483648) (kt : a < 0 → GW X tgt L S h n kc ks) (kf : 0 ≤ a → GW X (pc + 3) L S h n kc ks) : GW X pc L (.int (nI a) :: S) h n kc ks := by
  have hab : a < 2147483648 ∧ 0 < 2147483648 := ⟨hab, by omega⟩
  exact g_if_lt hX hd ht (fun q => kt ((gn_lt hab).mp q)) (fun q => kf (Nat.not_lt.mp fun z => q ((gn_lt hab).mpr z)))
theorem g_icmp_geN {l : Launch} {K : gw_K} {X : gw_X} {cc : ByteArray} {own : String} {F Lo MC MS pc : Nat} {L : List (Option Value)} {S : List Value} {h : gw_H} {n kc ks : Nat} {a b : Nat} {off : Int} {tgt : Nat} (hX : FX l K X cc own F Lo MC MS) (hd : decode cc pc = .ok (.if_icmp .ge off, 3)) (ht : (pc : Int) + off = (tgt : Int)) (hab : a < 2147483648 ∧ b < 2147483648) (kt : b ≤ a → GW X tgt L S h n kc ks) (kf : a < b → GW X (pc + 3) L S h n kc ks) : GW X pc L (.int (nI b) :: .int (nI a) :: S) h n kc ks :=
  g_icmp_ge hX hd ht (fun q => kt ((gn_le hab.symm).mp q)) (fun q => kf (Nat.not_le.mp fun z => q ((gn_le hab.symm).mpr z)))
theorem g_if_geN {l : Launch} {K : gw_K} {X : gw_X} {cc : ByteArray} {own : String} {F Lo MC MS pc : Nat} {L : List (Option Value)} {S : List Value} {h : gw_H} {n kc ks : Nat} {a : Nat} {off : Int} {tgt : Nat} (hX : FX l K X cc own F Lo MC MS) (hd : decode cc pc = .ok (.ifCond .ge off, 3)) (ht : (pc : Int) + off = (tgt : Int)) (hab : a < 2147483648) (kt : 0 ≤ a → GW X tgt L S h n kc ks) (kf : a < 0 → GW X (pc + 3) L S h n kc ks) : GW X pc L (.int (nI a) :: S) h n kc ks := by
  have hab : a < 2147483648 ∧ 0 < 2147483648 := ⟨hab, by omega⟩
  exact g_if_ge hX hd ht (fun q => kt ((gn_le hab.symm).mp q)) (fun q => kf (Nat.not_le.mp fun z => q ((gn_le hab.symm).mpr z)))
theorem g_icmp_gtN {l : Launch} {K : gw_K} {X : gw_X} {cc : ByteArray} {own : String} {F Lo MC MS pc : Nat} {L : List (Option Value)} {S : List Value} {h : gw_H} {n kc ks : Nat} {a b : Nat} {off : Int} {tgt : Nat} (hX : FX l K X cc own F Lo MC MS) (hd : decode cc pc = .ok (.if_icmp .gt off, 3)) (ht : (pc : Int) + off = (tgt : Int)) (hab : a < 2147483648 ∧ b < 2147483648) (kt : b < a → GW X tgt L S h n kc ks) (kf : a ≤ b → GW X (pc + 3) L S h n kc ks) : GW X pc L (.int (nI b) :: .int (nI a) :: S) h n kc ks :=
  g_icmp_gt hX hd ht (fun q => kt ((gn_lt hab.symm).mp q)) (fun q => kf (Nat.not_lt.mp fun z => q ((gn_lt hab.symm).mpr z)))
theorem g_if_gtN {l : Launch} {K : gw_K} {X : gw_X} {cc : ByteArray} {own : String} {F Lo MC MS pc : Nat} {L : List (Option Value)} {S : List Value} {h : gw_H} {n kc ks : Nat} {a : Nat} {off : Int} {tgt : Nat} (hX : FX l K X cc own F Lo MC MS) (hd : decode cc pc = .ok (.ifCond .gt off, 3)) (ht : (pc : Int) + off = (tgt : Int)) (hab : a < 2147483648) (kt : 0 < a → GW X tgt L S h n kc ks) (kf : a ≤ 0 → GW X (pc + 3) L S h n kc ks) : GW X pc L (.int (nI a) :: S) h n kc ks := by
  have hab : a < 2147483648 ∧ 0 < 2147483648 := ⟨hab, by omega⟩
  exact g_if_gt hX hd ht (fun q => kt ((gn_lt hab.symm).mp q)) (fun q => kf (Nat.not_lt.mp fun z => q ((gn_lt hab.symm).mpr z)))
theorem g_icmp_leN {l : Launch} {K : gw_K} {X : gw_X} {cc : ByteArray} {own : String} {F Lo MC MS pc : Nat} {L : List (Option Value)} {S : List Value} {h : gw_H} {n kc ks : Nat} {a b : Nat} {off : Int} {tgt : Nat} (hX : FX l K X cc own F Lo MC MS) (hd : decode cc pc = .ok (.if_icmp .le off, 3)) (ht : (pc : Int) + off = (tgt : Int)) (hab : a < 2147483648 ∧ b < 2147483648) (kt : a ≤ b → GW X tgt L S h n kc ks) (kf : b < a → GW X (pc + 3) L S h n kc ks) : GW X pc L (.int (nI b) :: .int (nI a) :: S) h n kc ks :=
  g_icmp_le hX hd ht (fun q => kt ((gn_le hab).mp q)) (fun q => kf (Nat.not_le.mp fun z => q ((gn_le hab).mpr z)))
theorem g_if_leN {l : Launch} {K : gw_K} {X : gw_X} {cc : ByteArray} {own : String} {F Lo MC MS pc : Nat} {L : List (Option Value)} {S : List Value} {h : gw_H} {n kc ks : Nat} {a : Nat} {off : Int} {tgt : Nat} (hX : FX l K X cc own F Lo MC MS) (hd : decode cc pc = .ok (.ifCond .le off, 3)) (ht : (pc : Int) + off = (tgt : Int)) (hab : a < 2147483648) (kt : a ≤ 0 → GW X tgt L S h n kc ks) (kf : 0 < a → GW X (pc + 3) L S h n kc ks) : GW X pc L (.int (nI a) :: S) h n kc ks := by
  have hab : a < 2147483648 ∧ 0 < 2147483648 := ⟨hab, by omega⟩
  exact g_if_le hX hd ht (fun q => kt ((gn_le hab).mp q)) (fun q => kf (Nat.not_le.mp fun z => q ((gn_le hab).mpr z)))
theorem g_ifB_eq {l : Launch} {K : gw_K} {X : gw_X} {cc : ByteArray} {own : String} {F Lo MC MS pc : Nat} {L : List (Option Value)} {S : List Value} {h : gw_H} {n kc ks : Nat} {P : Prop} [Decidable P] {off : Int} {tgt : Nat} (hX : FX l K X cc own F Lo MC MS) (hd : decode cc pc = .ok (.ifCond .eq off, 3)) (ht : (pc : Int) + off = (tgt : Int)) (kt : ¬ P → GW X tgt L S h n kc ks) (kf : P → GW X (pc + 3) L S h n kc ks) : GW X pc L (.int (if P then nI 1 else nI 0) :: S) h n kc ks := by
  by_cases hP : P
  · rw [if_pos hP]
    exact g_if_eq hX hd ht (fun q => absurd q (by decide)) (fun _ => kf hP)
  · rw [if_neg hP]
    exact g_if_eq hX hd ht (fun _ => kt hP) (fun q => absurd q (by decide))
theorem g_ifB_ne {l : Launch} {K : gw_K} {X : gw_X} {cc : ByteArray} {own : String} {F Lo MC MS pc : Nat} {L : List (Option Value)} {S : List Value} {h : gw_H} {n kc ks : Nat} {P : Prop} [Decidable P] {off : Int} {tgt : Nat} (hX : FX l K X cc own F Lo MC MS) (hd : decode cc pc = .ok (.ifCond .ne off, 3)) (ht : (pc : Int) + off = (tgt : Int)) (kt : P → GW X tgt L S h n kc ks) (kf : ¬ P → GW X (pc + 3) L S h n kc ks) : GW X pc L (.int (if P then nI 1 else nI 0) :: S) h n kc ks := by
  by_cases hP : P
  · rw [if_pos hP]
    exact g_if_ne hX hd ht (fun _ => kt hP) (fun q => absurd q (by decide))
  · rw [if_neg hP]
    exact g_if_ne hX hd ht (fun q => absurd q (by decide)) (fun _ => kf hP)
theorem g_iaddN {l : Launch} {K : gw_K} {X : gw_X} {cc : ByteArray} {own : String} {F Lo MC MS pc : Nat} {L : List (Option Value)} {S : List Value} {h : gw_H} {n kc ks : Nat} {a b : Nat} (hX : FX l K X cc own F Lo MC MS) (hd : decode cc pc = .ok (.iadd, 1)) (k : GW X (pc + 1) L (.int (nI (a + b)) :: S) h n kc ks) : GW X pc L (.int (nI b) :: .int (nI a) :: S) h n kc ks :=
  g_iadd hX hd (by rw [nI_add a b]; exact k)
theorem g_imulN {l : Launch} {K : gw_K} {X : gw_X} {cc : ByteArray} {own : String} {F Lo MC MS pc : Nat} {L : List (Option Value)} {S : List Value} {h : gw_H} {n kc ks : Nat} {a b : Nat} (hX : FX l K X cc own F Lo MC MS) (hd : decode cc pc = .ok (.imul, 1)) (k : GW X (pc + 1) L (.int (nI (a * b)) :: S) h n kc ks) : GW X pc L (.int (nI b) :: .int (nI a) :: S) h n kc ks :=
  g_imul hX hd (by rw [pk_mul a b]; exact k)
theorem g_isubN {l : Launch} {K : gw_K} {X : gw_X} {cc : ByteArray} {own : String} {F Lo MC MS pc : Nat} {L : List (Option Value)} {S : List Value} {h : gw_H} {n kc ks : Nat} {a b : Nat} (hX : FX l K X cc own F Lo MC MS) (hd : decode cc pc = .ok (.isub, 1)) (hba : b ≤ a) (k : GW X (pc + 1) L (.int (nI (a - b)) :: S) h n kc ks) : GW X pc L (.int (nI b) :: .int (nI a) :: S) h n kc ks :=
  g_isub hX hd (by rw [pk_sub hba]; exact k)
theorem g_idivN {l : Launch} {K : gw_K} {X : gw_X} {cc : ByteArray} {own : String} {F Lo MC MS pc : Nat} {L : List (Option Value)} {S : List Value} {h : gw_H} {n kc ks : Nat} {a b : Nat} (hX : FX l K X cc own F Lo MC MS) (hd : decode cc pc = .ok (.idiv, 1)) (ha : a < 2147483648) (h0 : 0 < b) (hb : b < 2147483648) (k : GW X (pc + 1) L (.int (nI (a / b)) :: S) h n kc ks) : GW X pc L (.int (nI b) :: .int (nI a) :: S) h n kc ks :=
  g_idiv hX hd (nI_ne0 h0 (by omega)) (by rw [pk_div (by omega) h0 (by omega)]; exact k)
theorem g_iremN {l : Launch} {K : gw_K} {X : gw_X} {cc : ByteArray} {own : String} {F Lo MC MS pc : Nat} {L : List (Option Value)} {S : List Value} {h : gw_H} {n kc ks : Nat} {a b : Nat} (hX : FX l K X cc own F Lo MC MS) (hd : decode cc pc = .ok (.irem, 1)) (ha : a < 2147483648) (h0 : 0 < b) (hb : b < 2147483648) (k : GW X (pc + 1) L (.int (nI (a % b)) :: S) h n kc ks) : GW X pc L (.int (nI b) :: .int (nI a) :: S) h n kc ks :=
  g_irem hX hd (nI_ne0 h0 (by omega)) (by rw [pk_rem (by omega) h0 (by omega)]; exact k)
end
section
/-! the tower's numbers -/
def bandI (x : Int32) : Int32 := if x = -1 then -1 else x / nI 6
def bellI (x : Int32) : Int32 := if x = -1 then -1 else x - x / nI 6 * nI 6
/-- the first of N places where p holds, from i on; -1 without one -/
def ffi (p : Nat → Bool) : Nat → Nat → Int32
  | _, 0 => -1
  | i, k + 1 => if p i then nI i else ffi p (i + 1) k
theorem ffi_step {p : Nat → Bool} {i N : Nat} (h : i < N) : ffi p i (N - i) = if p i then nI i else ffi p (i + 1) (N - (i + 1)) := by
  have e : N - i = (N - (i + 1)) + 1 := by omega
  rw [e]; rfl
def atI (st : Nat → Int32) (rc : Nat) (x : Int32) : Int32 := ffi (fun r => decide (st r = x)) 0 rc
def rankI (wd vt : Nat → Int32) (rc r : Nat) : Int32 := itr (fun o s => if wd o = wd r ∧ vt r < vt o then s + 1 else s) rc (nI 1)
def cntI (st : Nat → Int32) (rc : Nat) (b : Int32) : Int32 := itr (fun r s => if bandI (st r) = b then s + 1 else s) rc (nI 0)
def busyI (st : Nat → Int32) (rc : Nat) : Int32 := itr (fun b s => s + cntI st rc (nI b)) 3 (nI 0)
def fullI (st : Nat → Int32) (rc : Nat) : Int32 := itr (fun b s => if cntI st rc (nI b) = nI 6 then s + 1 else s) 3 (nI 0)
def skillI (st sk : Nat → Int32) (rc : Nat) : Int32 := itr (fun r s => if st r = -1 then s else s + sk r) rc (nI 0)
def sumI (f : Nat → Int32) (rc : Nat) : Int32 := itr (fun r s => s + f r) rc (nI 0)
def freshI (st ti : Nat → Int32) (rc : Nat) (b : Int32) : Int32 := itr (fun r s => if bandI (st r) = b ∧ ti r < nI 15 then s + 1 else s) rc (nI 0)
def clampI (v : Int32) : Int32 := if nI 0 < (if v < nI 99 then v else nI 99) then (if v < nI 99 then v else nI 99) else nI 0
def bestP (wd vt st : Nat → Int32) (w : Int32) (r : Nat) (s : Int32 × Int32) : Int32 × Int32 := if st r = -1 ∧ wd r = w ∧ s.2 < vt r then (nI r, vt r) else s
def bestI (wd vt st : Nat → Int32) (rc : Nat) (w : Int32) : Int32 := (itr (bestP wd vt st w) rc (-1, -1)).1
def elTo (wd vt ws : Nat → Int32) (rc : Nat) (st : Nat → Int32) (seat : Nat) : Nat → Int32 := if bestI wd vt st rc (ws seat) = -1 then st else upd st (bestI wd vt st rc (ws seat)).toNatClampNeg (nI seat)
def clrB (st : Nat → Int32) (rc : Nat) (b : Int32) : Nat → Int32 := itr (fun r s => if bandI (s r) = b then upd s r (-1) else s) rc st
def elB (wd vt ws : Nat → Int32) (rc : Nat) (st : Nat → Int32) (b : Nat) : Nat → Int32 := itr (fun k s => elTo wd vt ws rc s (b * 6 + k)) 6 (clrB st rc (nI b))
def el3 (wd vt ws : Nat → Int32) (rc : Nat) (st : Nat → Int32) : Nat → Int32 := itr (fun b s => elB wd vt ws rc s b) 3 st
def restI (st ti : Nat → Int32) (rc : Nat) : Nat → Int32 := itr (fun r s => upd s r (if nI 0 < s r - (if st r = -1 then nI 5 else nI 3) then s r - (if st r = -1 then nI 5 else nI 3) else nI 0)) rc ti
/-- a day: tired, seats, the day -/
def dayI (wd vt ws : Nat → Int32) (rc : Nat) (s : (Nat → Int32) × (Nat → Int32) × Int32) : (Nat → Int32) × (Nat → Int32) × Int32 := (restI s.2.1 s.1 rc, if s.2.2 - s.2.2 / nI 7 * nI 7 = nI 6 then el3 wd vt ws rc s.2.1 else s.2.1, s.2.2 + 1)
def daysI (wd vt ws : Nat → Int32) (rc d : Nat) (s : (Nat → Int32) × (Nat → Int32) × Int32) : (Nat → Int32) × (Nat → Int32) × Int32 := itr (fun _ s => dayI wd vt ws rc s) d s
def movedI (st st2 : Nat → Int32) (rc : Nat) : Int32 := itr (fun r s => if st r = st2 r then s else s + 1) rc (nI 0)
def tellI (wd sk vt ti fa st : Nat → Int32) (rc r q : Nat) : Int32 := if q = 0 then wd r else if q = 1 then sk r else if q = 2 then vt r else if q = 3 then ti r else if q = 4 then bandI (st r) else if q = 5 then bellI (st r) else if q = 6 then fa r else rankI wd vt rc r
theorem best_in (wd vt st : Nat → Int32) (w : Int32) : ∀ (k : Nat), (itr (bestP wd vt st w) k (-1, -1)).1 = -1 ∨ ∃ b, b < k ∧ (itr (bestP wd vt st w) k (-1, -1)).1 = nI b := by
  intro k
  induction k with
  | zero => exact Or.inl rfl
  | succ k ih =>
    show (bestP wd vt st w k (itr (bestP wd vt st w) k (-1, -1))).1 = -1 ∨ ∃ b, b < k + 1 ∧ (bestP wd vt st w k (itr (bestP wd vt st w) k (-1, -1))).1 = nI b
    unfold bestP
    split
    · exact Or.inr ⟨k, by omega, rfl⟩
    · rcases ih with h | ⟨b, h1, h2⟩
      · exact Or.inl h
      · exact Or.inr ⟨b, by omega, h2⟩
theorem bestI_in {wd vt st : Nat → Int32} {rc : Nat} {w : Int32} (hrc : rc ≤ 20) (h : ¬ bestI wd vt st rc w = -1) : (bestI wd vt st rc w).toNatClampNeg < 20 ∧ bestI wd vt st rc w = nI (bestI wd vt st rc w).toNatClampNeg := by
  rcases best_in wd vt st w rc with h1 | ⟨b, h1, h2⟩
  · exact absurd h1 h
  · have h3 : bestI wd vt st rc w = nI b := h2
    rw [h3, nI_clamp (by omega)]
    exact ⟨by omega, rfl⟩
end
section
set_option maxRecDepth 20000 in
theorem kX3_requireIndex {l : Launch} {K : gw_K} (hst : l.stackTraces = false) {i z : Int32} {h : gw_H} {n : Nat}  (hz : ¬ (i < 0 ∨ z ≤ i)) : Ctr l K mX3_requireIndex [.int i, .int z] h n 0 0 (PQ (none) h n) (PX0) := by
  refine Ctr.of hst pn_X3_requireIndex (Nat.le_of_ble_eq_true rfl) (fun X hX hr hE => ?_)
  have hX : FX l K X cX3_requireIndex RX3 6 90 0 0 := hX
  show GW X 0 [some (.int i), some (.int z)] [] h n 0 0
  refine g_iload_n hX dX3_requireIndex_0 rfl rfl ?_
  refine g_if_lt (tgt := 9) hX dX3_requireIndex_1 (by decide) (fun c1 => absurd c1 (fun q => hz (Or.inl q))) (fun c1 => ?_)
  refine g_iload_n hX dX3_requireIndex_4 rfl rfl ?_
  refine g_iload_n hX dX3_requireIndex_5 rfl rfl ?_
  refine g_icmp_lt (tgt := 19) hX dX3_requireIndex_6 (by decide) (fun c2 => ?_) (fun c2 => absurd c2 (fun q => hz (Or.inr (gn_ile.mp q))))
  refine g_return hX hr dX3_requireIndex_19 (Nat.le_refl _) (Nat.le_refl _)  ?_
  exact ⟨rfl, rfl, rfl⟩
set_option maxRecDepth 20000 in
theorem kX3_requireIndex_x {l : Launch} {K : gw_K} (hst : l.stackTraces = false) {i z : Int32} {h : gw_H} {n : Nat}  (hz : i < 0 ∨ z ≤ i) : Ctr l K mX3_requireIndex [.int i, .int z] h n 1 6 (fun _ _ _ => False) (PXQ "java/lang/IndexOutOfBoundsException" h n) := by
  refine Ctr.of hst pn_X3_requireIndex (Nat.le_of_ble_eq_true rfl) (fun X hX hr hE => ?_)
  have hX : FX l K X cX3_requireIndex RX3 6 90 1 6 := hX
  show GW X 0 [some (.int i), some (.int z)] [] h n 0 0
  refine g_iload_n hX dX3_requireIndex_0 rfl rfl ?_
  refine g_if_lt (tgt := 9) hX dX3_requireIndex_1 (by decide) (fun c1 => ?_) (fun c1 => ?_)
  · refine g_throwS hX hr hE.1 ts_237_239_241 dX3_requireIndex_9 dX3_requireIndex_12 dX3_requireIndex_13 dX3_requireIndex_15 dX3_requireIndex_18 (Nat.le_of_ble_eq_true rfl) (Nat.le_of_ble_eq_true rfl) (by omega) (by omega) ?_
    exact ⟨rfl, rfl, rfl⟩
  · refine g_iload_n hX dX3_requireIndex_4 rfl rfl ?_
    refine g_iload_n hX dX3_requireIndex_5 rfl rfl ?_
    refine g_icmp_lt (tgt := 19) hX dX3_requireIndex_6 (by decide) (fun c2 => ?_) (fun c2 => ?_)
    · refine g_return hX hr dX3_requireIndex_19 (by omega) (by omega)  ?_
      exact hz.elim c1 (fun z => absurd c2 (gn_ile.mpr z))
    · refine g_throwS hX hr hE.1 ts_237_239_241 dX3_requireIndex_9 dX3_requireIndex_12 dX3_requireIndex_13 dX3_requireIndex_15 dX3_requireIndex_18 (Nat.le_of_ble_eq_true rfl) (Nat.le_of_ble_eq_true rfl) (by omega) (by omega) ?_
      exact ⟨rfl, rfl, rfl⟩
set_option maxRecDepth 20000 in
theorem kX3_requireWithin {l : Launch} {K : gw_K} (hst : l.stackTraces = false) {v a b : Int32} {h : gw_H} {n : Nat}  (hz : ¬ (v < a ∨ b < v)) : Ctr l K mX3_requireWithin [.int v, .int a, .int b] h n 0 0 (PQ (none) h n) (PX0) := by
  refine Ctr.of hst pn_X3_requireWithin (Nat.le_of_ble_eq_true rfl) (fun X hX hr hE => ?_)
  have hX : FX l K X cX3_requireWithin RX3 6 90 0 0 := hX
  show GW X 0 [some (.int v), some (.int a), some (.int b)] [] h n 0 0
  refine g_iload_n hX dX3_requireWithin_0 rfl rfl ?_
  refine g_iload_n hX dX3_requireWithin_1 rfl rfl ?_
  refine g_icmp_lt (tgt := 10) hX dX3_requireWithin_2 (by decide) (fun c1 => absurd c1 (fun q => hz (Or.inl q))) (fun c1 => ?_)
  refine g_iload_n hX dX3_requireWithin_5 rfl rfl ?_
  refine g_iload_n hX dX3_requireWithin_6 rfl rfl ?_
  refine g_icmp_le (tgt := 20) hX dX3_requireWithin_7 (by decide) (fun c2 => ?_) (fun c2 => absurd c2 (fun q => hz (Or.inr (gn_ilt.mp q))))
  refine g_return hX hr dX3_requireWithin_20 (Nat.le_refl _) (Nat.le_refl _)  ?_
  exact ⟨rfl, rfl, rfl⟩
set_option maxRecDepth 20000 in
theorem kX3_requireWithin_x {l : Launch} {K : gw_K} (hst : l.stackTraces = false) {v a b : Int32} {h : gw_H} {n : Nat}  (hz : v < a ∨ b < v) : Ctr l K mX3_requireWithin [.int v, .int a, .int b] h n 1 6 (fun _ _ _ => False) (PXQ "java/lang/IllegalArgumentException" h n) := by
  refine Ctr.of hst pn_X3_requireWithin (Nat.le_of_ble_eq_true rfl) (fun X hX hr hE => ?_)
  have hX : FX l K X cX3_requireWithin RX3 6 90 1 6 := hX
  show GW X 0 [some (.int v), some (.int a), some (.int b)] [] h n 0 0
  refine g_iload_n hX dX3_requireWithin_0 rfl rfl ?_
  refine g_iload_n hX dX3_requireWithin_1 rfl rfl ?_
  refine g_icmp_lt (tgt := 10) hX dX3_requireWithin_2 (by decide) (fun c1 => ?_) (fun c1 => ?_)
  · refine g_throwS hX hr hE.1 ts_119_242_123 dX3_requireWithin_10 dX3_requireWithin_13 dX3_requireWithin_14 dX3_requireWithin_16 dX3_requireWithin_19 (Nat.le_of_ble_eq_true rfl) (Nat.le_of_ble_eq_true rfl) (by omega) (by omega) ?_
    exact ⟨rfl, rfl, rfl⟩
  · refine g_iload_n hX dX3_requireWithin_5 rfl rfl ?_
    refine g_iload_n hX dX3_requireWithin_6 rfl rfl ?_
    refine g_icmp_le (tgt := 20) hX dX3_requireWithin_7 (by decide) (fun c2 => ?_) (fun c2 => ?_)
    · refine g_return hX hr dX3_requireWithin_20 (by omega) (by omega)  ?_
      exact hz.elim c1 (fun z => absurd c2 (gn_ilt.mpr z))
    · refine g_throwS hX hr hE.1 ts_119_242_123 dX3_requireWithin_10 dX3_requireWithin_13 dX3_requireWithin_14 dX3_requireWithin_16 dX3_requireWithin_19 (Nat.le_of_ble_eq_true rfl) (Nat.le_of_ble_eq_true rfl) (by omega) (by omega) ?_
      exact ⟨rfl, rfl, rfl⟩
set_option maxRecDepth 20000 in
theorem kX3_requireSeat {l : Launch} {K : gw_K} (hst : l.stackTraces = false) {a b : Int32} {h : gw_H} {n : Nat}  (hz : ¬ ((a < 0 ∨ nI 3 ≤ a) ∨ (b < 0 ∨ nI 6 ≤ b))) : Ctr l K mX3_requireSeat [.int a, .int b] h n 0 0 (PQ (none) h n) (PX0) := by
  refine Ctr.of hst pn_X3_requireSeat (Nat.le_of_ble_eq_true rfl) (fun X hX hr hE => ?_)
  have hX : FX l K X cX3_requireSeat RX3 7 111 0 0 := hX
  show GW X 0 [some (.int a), some (.int b)] [] h n 0 0
  refine g_iload_n hX dX3_requireSeat_0 rfl rfl ?_
  refine g_iconst (v := (nI 3)) hX dX3_requireSeat_1 (by decide) ?_
  refine g_callS (As := [.int a, .int (nI 3)]) hX dX3_requireSeat_2 cb_X3_requireIndex ml_X3_33 st_X3_requireIndex rfl rfl (kX3_requireIndex hst (fun q => hz (Or.inl q))) (Nat.le_of_ble_eq_true rfl) (Nat.le_of_ble_eq_true rfl) (by omega) (by omega) (Nat.le_of_ble_eq_true rfl) GX.no (pq ?_)
  show GW X 5 [some (.int a), some (.int b)] [] h n 0 0
  refine g_iload_n hX dX3_requireSeat_5 rfl rfl ?_
  refine g_bipush (v := (nI 6)) hX dX3_requireSeat_6 (by decide) ?_
  refine g_callS (As := [.int b, .int (nI 6)]) hX dX3_requireSeat_8 cb_X3_requireIndex ml_X3_33 st_X3_requireIndex rfl rfl (kX3_requireIndex hst (fun q => hz (Or.inr q))) (Nat.le_of_ble_eq_true rfl) (Nat.le_of_ble_eq_true rfl) (by omega) (by omega) (Nat.le_of_ble_eq_true rfl) GX.no (pq ?_)
  show GW X 11 [some (.int a), some (.int b)] [] h n 0 0
  refine g_return hX hr dX3_requireSeat_11 (Nat.le_refl _) (Nat.le_refl _)  ?_
  exact ⟨rfl, rfl, rfl⟩
set_option maxRecDepth 20000 in
theorem kX3_requireSeat_x {l : Launch} {K : gw_K} (hst : l.stackTraces = false) {a b : Int32} {h : gw_H} {n : Nat}  (hz : (a < 0 ∨ nI 3 ≤ a) ∨ (b < 0 ∨ nI 6 ≤ b)) : Ctr l K mX3_requireSeat [.int a, .int b] h n 1 6 (fun _ _ _ => False) (PXQ "java/lang/IndexOutOfBoundsException" h n) := by
  refine Ctr.of hst pn_X3_requireSeat (Nat.le_of_ble_eq_true rfl) (fun X hX hr hE => ?_)
  have hX : FX l K X cX3_requireSeat RX3 7 111 1 6 := hX
  show GW X 0 [some (.int a), some (.int b)] [] h n 0 0
  refine g_iload_n hX dX3_requireSeat_0 rfl rfl ?_
  refine g_iconst (v := (nI 3)) hX dX3_requireSeat_1 (by decide) ?_
  rcases Classical.em (a < 0 ∨ (nI 3) ≤ a) with g1 | g1
  · refine g_callS (As := [.int a, .int (nI 3)]) hX dX3_requireSeat_2 cb_X3_requireIndex ml_X3_33 st_X3_requireIndex rfl rfl (kX3_requireIndex_x hst g1) (Nat.le_of_ble_eq_true rfl) (Nat.le_of_ble_eq_true rfl) (by omega) (by omega) (Nat.le_of_ble_eq_true rfl) ?_ ?_
    · refine px ?_
      refine g_out hX hr hE.1 (by omega) (by omega) ?_
      exact ⟨rfl, rfl, rfl⟩
    · exact fun _ _ _ _ h => h.elim
  · refine g_callS (As := [.int a, .int (nI 3)]) hX dX3_requireSeat_2 cb_X3_requireIndex ml_X3_33 st_X3_requireIndex rfl rfl (kX3_requireIndex hst g1) (Nat.le_of_ble_eq_true rfl) (Nat.le_of_ble_eq_true rfl) (by omega) (by omega) (Nat.le_of_ble_eq_true rfl) GX.no (pq ?_)
    show GW X 5 [some (.int a), some (.int b)] [] h n 0 0
    refine g_iload_n hX dX3_requireSeat_5 rfl rfl ?_
    refine g_bipush (v := (nI 6)) hX dX3_requireSeat_6 (by decide) ?_
    rcases Classical.em (b < 0 ∨ (nI 6) ≤ b) with g2 | g2
    · refine g_callS (As := [.int b, .int (nI 6)]) hX dX3_requireSeat_8 cb_X3_requireIndex ml_X3_33 st_X3_requireIndex rfl rfl (kX3_requireIndex_x hst g2) (Nat.le_of_ble_eq_true rfl) (Nat.le_of_ble_eq_true rfl) (by omega) (by omega) (Nat.le_of_ble_eq_true rfl) ?_ ?_
      · refine px ?_
        refine g_out hX hr hE.1 (by omega) (by omega) ?_
        exact ⟨rfl, rfl, rfl⟩
      · exact fun _ _ _ _ h => h.elim
    · refine g_callS (As := [.int b, .int (nI 6)]) hX dX3_requireSeat_8 cb_X3_requireIndex ml_X3_33 st_X3_requireIndex rfl rfl (kX3_requireIndex hst g2) (Nat.le_of_ble_eq_true rfl) (Nat.le_of_ble_eq_true rfl) (by omega) (by omega) (Nat.le_of_ble_eq_true rfl) GX.no (pq ?_)
      show GW X 11 [some (.int a), some (.int b)] [] h n 0 0
      refine g_return hX hr dX3_requireSeat_11 (by omega) (by omega)  ?_
      exact hz.elim g1 g2
set_option maxRecDepth 20000 in
theorem kX3_seatNumber {l : Launch} {K : gw_K} (hst : l.stackTraces = false) {a b : Nat} {h : gw_H} {n : Nat}   : Ctr l K mX3_seatNumber [.int (nI a), .int (nI b)] h n 0 0 (PQ (some (.int (nI (a * 6 + b)))) h n) (PX0) := by
  refine Ctr.of hst pn_X3_seatNumber (Nat.le_of_ble_eq_true rfl) (fun X hX hr hE => ?_)
  have hX : FX l K X cX3_seatNumber RX3 0 0 0 0 := hX
  show GW X 0 [some (.int (nI a)), some (.int (nI b))] [] h n 0 0
  refine g_iload_n hX dX3_seatNumber_0 rfl rfl ?_
  refine g_bipush (v := (nI 6)) hX dX3_seatNumber_1 (by decide) ?_
  refine g_imulN hX dX3_seatNumber_3 ?_
  refine g_iload_n hX dX3_seatNumber_4 rfl rfl ?_
  refine g_iaddN hX dX3_seatNumber_5 ?_
  refine g_ireturn hX hr dX3_seatNumber_6 (Nat.le_refl _) (Nat.le_refl _)  ?_
  exact ⟨rfl, rfl, rfl⟩
end
section
set_option maxRecDepth 20000 in
theorem kX2_ringsBell {l : Launch} {K : gw_K} (hst : l.stackTraces = false) {t rc n : Nat} {dy : Int32} {h : gw_H} {st : Nat → Int32} {r : Nat} (f0 : h t = (oB 2 [.ref (t + 1), .ref (t + 2), .ref (t + 3), .ref (t + 4), .ref (t + 5), .ref (t + 6), .ref (t + 7), .ref (t + 8), .int (nI rc), .int dy])) (fst : h (t + 7) = (aI 20 st)) (hr : r < 20) : Ctr l K mX2_ringsBell [.ref t, .int (nI r)] h n 0 0 (PQ (some (.int (if ¬ st r = -1 then nI 1 else nI 0))) h n) (PX0) := by
  refine Ctr.of hst pn_X2_ringsBell (Nat.le_of_ble_eq_true rfl) (fun X hX hr hE => ?_)
  have hX : FX l K X cX2_ringsBell RX2 0 0 0 0 := hX
  show GW X 0 [some (.ref t), some (.int (nI r))] [] h n 0 0
  refine g_aload_n hX dX2_ringsBell_0 rfl rfl ?_
  refine g_getf hX dX2_ringsBell_1 fl_X2_30 (f0) rfl ?_
  refine g_iload_n hX dX2_ringsBell_4 rfl rfl ?_
  refine g_iaload hX dX2_ringsBell_5 (fst) (r) (by omega) rfl (by omega) ?_
  refine g_iconst (v := (-1)) hX dX2_ringsBell_6 (by decide) ?_
  refine g_icmp_eq (tgt := 14) hX dX2_ringsBell_7 (by decide) (fun c1 => ?_) (fun c1 => ?_)
  · refine g_iconst (v := (nI 0)) hX dX2_ringsBell_14 (by decide) ?_
    refine g_zreturn hX hr (by decide) dX2_ringsBell_15 (Nat.le_refl _) (Nat.le_refl _)  ?_
    exact ⟨by simp [c1], rfl, rfl⟩
  · refine g_iconst (v := (nI 1)) hX dX2_ringsBell_10 (by decide) ?_
    refine g_goto (tgt := 15) hX dX2_ringsBell_11 (by decide) ?_
    refine g_zreturn hX hr (by decide) dX2_ringsBell_15 (Nat.le_refl _) (Nat.le_refl _)  ?_
    exact ⟨by simp [c1], rfl, rfl⟩
set_option maxRecDepth 20000 in
theorem kX2_bandOf {l : Launch} {K : gw_K} (hst : l.stackTraces = false) {t rc n : Nat} {dy : Int32} {h : gw_H} {st : Nat → Int32} {r : Nat} (f0 : h t = (oB 2 [.ref (t + 1), .ref (t + 2), .ref (t + 3), .ref (t + 4), .ref (t + 5), .ref (t + 6), .ref (t + 7), .ref (t + 8), .int (nI rc), .int dy])) (fst : h (t + 7) = (aI 20 st)) (hr : r < 20) : Ctr l K mX2_bandOf [.ref t, .int (nI r)] h n 0 0 (PQ (some (.int (bandI (st r)))) h n) (PX0) := by
  refine Ctr.of hst pn_X2_bandOf (Nat.le_of_ble_eq_true rfl) (fun X hX hr hE => ?_)
  have hX : FX l K X cX2_bandOf RX2 1 21 0 0 := hX
  show GW X 0 [some (.ref t), some (.int (nI r))] [] h n 0 0
  refine g_aload_n hX dX2_bandOf_0 rfl rfl ?_
  refine g_iload_n hX dX2_bandOf_1 rfl rfl ?_
  refine g_callV (As := [.int (nI r)]) hX dX2_bandOf_2 cb_X2_ringsBell ml_X2_58 im_X2_ringsBell se_X2_ringsBell rfl rfl (f0) ⟨_, rfl, rfl⟩ (kX2_ringsBell hst (f0) (fst) (by omega)) (Nat.le_of_ble_eq_true rfl) (Nat.le_of_ble_eq_true rfl) (by omega) (by omega) (Nat.le_of_ble_eq_true rfl) GX.no (pq ?_)
  show GW X 5 [some (.ref t), some (.int (nI r))] [.int (if ¬ st r = -1 then nI 1 else nI 0)] h n 0 0
  refine g_ifB_eq (tgt := 20) hX dX2_bandOf_5 (by decide) (fun c1 => ?_) (fun c1 => ?_)
  · refine g_iconst (v := (-1)) hX dX2_bandOf_20 (by decide) ?_
    refine g_ireturn hX hr dX2_bandOf_21 (Nat.le_refl _) (Nat.le_refl _)  ?_
    exact ⟨by simp [bandI, c1], rfl, rfl⟩
  · refine g_aload_n hX dX2_bandOf_8 rfl rfl ?_
    refine g_getf hX dX2_bandOf_9 fl_X2_30 (f0) rfl ?_
    refine g_iload_n hX dX2_bandOf_12 rfl rfl ?_
    refine g_iaload hX dX2_bandOf_13 (fst) (r) (by omega) rfl (by omega) ?_
    refine g_bipush (v := (nI 6)) hX dX2_bandOf_14 (by decide) ?_
    refine g_idiv hX dX2_bandOf_16 (by decide) ?_
    refine g_goto (tgt := 21) hX dX2_bandOf_17 (by decide) ?_
    refine g_ireturn hX hr dX2_bandOf_21 (Nat.le_refl _) (Nat.le_refl _)  ?_
    exact ⟨by simp [bandI, c1], rfl, rfl⟩
set_option maxRecDepth 20000 in
theorem kX2_bellOf {l : Launch} {K : gw_K} (hst : l.stackTraces = false) {t rc n : Nat} {dy : Int32} {h : gw_H} {st : Nat → Int32} {r : Nat} (f0 : h t = (oB 2 [.ref (t + 1), .ref (t + 2), .ref (t + 3), .ref (t + 4), .ref (t + 5), .ref (t + 6), .ref (t + 7), .ref (t + 8), .int (nI rc), .int dy])) (fst : h (t + 7) = (aI 20 st)) (hr : r < 20) : Ctr l K mX2_bellOf [.ref t, .int (nI r)] h n 0 0 (PQ (some (.int (bellI (st r)))) h n) (PX0) := by
  refine Ctr.of hst pn_X2_bellOf (Nat.le_of_ble_eq_true rfl) (fun X hX hr hE => ?_)
  have hX : FX l K X cX2_bellOf RX2 1 21 0 0 := hX
  show GW X 0 [some (.ref t), some (.int (nI r))] [] h n 0 0
  refine g_aload_n hX dX2_bellOf_0 rfl rfl ?_
  refine g_iload_n hX dX2_bellOf_1 rfl rfl ?_
  refine g_callV (As := [.int (nI r)]) hX dX2_bellOf_2 cb_X2_ringsBell ml_X2_58 im_X2_ringsBell se_X2_ringsBell rfl rfl (f0) ⟨_, rfl, rfl⟩ (kX2_ringsBell hst (f0) (fst) (by omega)) (Nat.le_of_ble_eq_true rfl) (Nat.le_of_ble_eq_true rfl) (by omega) (by omega) (Nat.le_of_ble_eq_true rfl) GX.no (pq ?_)
  show GW X 5 [some (.ref t), some (.int (nI r))] [.int (if ¬ st r = -1 then nI 1 else nI 0)] h n 0 0
  refine g_ifB_eq (tgt := 20) hX dX2_bellOf_5 (by decide) (fun c1 => ?_) (fun c1 => ?_)
  · refine g_iconst (v := (-1)) hX dX2_bellOf_20 (by decide) ?_
    refine g_ireturn hX hr dX2_bellOf_21 (Nat.le_refl _) (Nat.le_refl _)  ?_
    exact ⟨by simp [bellI, c1], rfl, rfl⟩
  · refine g_aload_n hX dX2_bellOf_8 rfl rfl ?_
    refine g_getf hX dX2_bellOf_9 fl_X2_30 (f0) rfl ?_
    refine g_iload_n hX dX2_bellOf_12 rfl rfl ?_
    refine g_iaload hX dX2_bellOf_13 (fst) (r) (by omega) rfl (by omega) ?_
    refine g_bipush (v := (nI 6)) hX dX2_bellOf_14 (by decide) ?_
    refine g_irem hX dX2_bellOf_16 (by decide) ?_
    refine g_goto (tgt := 21) hX dX2_bellOf_17 (by decide) ?_
    refine g_ireturn hX hr dX2_bellOf_21 (Nat.le_refl _) (Nat.le_refl _)  ?_
    exact ⟨by simp [bellI, c1], rfl, rfl⟩
set_option maxRecDepth 20000 in
theorem kX2_ringerAt {l : Launch} {K : gw_K} (hst : l.stackTraces = false) {t rc n : Nat} {dy : Int32} {h : gw_H} {st : Nat → Int32} {x : Int32} (f0 : h t = (oB 2 [.ref (t + 1), .ref (t + 2), .ref (t + 3), .ref (t + 4), .ref (t + 5), .ref (t + 6), .ref (t + 7), .ref (t + 8), .int (nI rc), .int dy])) (fst : h (t + 7) = (aI 20 st)) (hrc : rc ≤ 20) : Ctr l K mX2_ringerAt [.ref t, .int x] h n 0 0 (PQ (some (.int (atI st rc x))) h n) (PX0) := by
  refine Ctr.of hst pn_X2_ringerAt (Nat.le_of_ble_eq_true rfl) (fun X hX hr hE => ?_)
  have hX : FX l K X cX2_ringerAt RX2 0 0 0 0 := hX
  show GW X 0 [some (.ref t), some (.int x), none] [] h n 0 0
  refine g_iconst (v := (nI 0)) hX dX2_ringerAt_0 (by decide) ?_
  refine g_istore_n hX dX2_ringerAt_1 rfl (Nat.le_of_ble_eq_true rfl) rfl ?_
  refine g_loop (P := fun (i : Nat) => GW X 2 [some (.ref t), some (.int x), some (.int (nI i))] [] h n 0 0) (fun i => atI st rc x = ffi (fun r => decide (st r = x)) i (rc - i)) rc rfl ?_ ?_
  · intro i1 hi1 Ii1 ihi1
    have ihi1 : atI st rc x = ffi (fun r => decide (st r = x)) (i1 + 1) (rc - (i1 + 1)) → GW X 2 [some (.ref t), some (.int x), some (.int (nI (i1 + 1)))] [] h n 0 0 := ihi1
    refine g_iload_n hX dX2_ringerAt_2 rfl rfl ?_
    refine g_aload_n hX dX2_ringerAt_3 rfl rfl ?_
    refine g_getf hX dX2_ringerAt_4 fl_X2_42 (f0) rfl ?_
    refine g_icmp_geN (tgt := 28) hX dX2_ringerAt_7 (by decide) (by omega) (fun c2 => absurd c2 (by omega)) (fun c2 => ?_)
    refine g_aload_n hX dX2_ringerAt_10 rfl rfl ?_
    refine g_getf hX dX2_ringerAt_11 fl_X2_30 (f0) rfl ?_
    refine g_iload_n hX dX2_ringerAt_14 rfl rfl ?_
    refine g_iaload hX dX2_ringerAt_15 (fst) (i1) (by omega) rfl (by omega) ?_
    refine g_iload_n hX dX2_ringerAt_16 rfl rfl ?_
    refine g_icmp_ne (tgt := 22) hX dX2_ringerAt_17 (by decide) (fun c3 => ?_) (fun c3 => ?_)
    · refine g_iinc (v := (nI (i1 + 1))) hX dX2_ringerAt_22 rfl rfl (gn_inc _ _) ?_
      refine g_goto (tgt := 2) hX dX2_ringerAt_25 (by decide) ?_
      exact ihi1 (by rw [Ii1, ffi_step hi1, if_neg (by simp [c2, c3])])
    · refine g_iload_n hX dX2_ringerAt_20 rfl rfl ?_
      refine g_ireturn hX hr dX2_ringerAt_21 (Nat.le_refl _) (Nat.le_refl _)  ?_
      exact ⟨by rw [Ii1, ffi_step hi1, if_pos (by simp [c2, c3])], rfl, rfl⟩
  · intro IN4
    refine g_iload_n hX dX2_ringerAt_2 rfl rfl ?_
    refine g_aload_n hX dX2_ringerAt_3 rfl rfl ?_
    refine g_getf hX dX2_ringerAt_4 fl_X2_42 (f0) rfl ?_
    refine g_icmp_geN (tgt := 28) hX dX2_ringerAt_7 (by decide) (by omega) (fun c5 => ?_) (fun c5 => absurd c5 (by omega))
    refine g_iconst (v := (-1)) hX dX2_ringerAt_28 (by decide) ?_
    refine g_ireturn hX hr dX2_ringerAt_29 (Nat.le_refl _) (Nat.le_refl _)  ?_
    exact ⟨by rw [IN4, Nat.sub_self]; rfl, rfl, rfl⟩
set_option maxRecDepth 20000 in
theorem kX2_rankOf {l : Launch} {K : gw_K} (hst : l.stackTraces = false) {t rc n : Nat} {dy : Int32} {h : gw_H} {wd vt : Nat → Int32} {r : Nat} (f0 : h t = (oB 2 [.ref (t + 1), .ref (t + 2), .ref (t + 3), .ref (t + 4), .ref (t + 5), .ref (t + 6), .ref (t + 7), .ref (t + 8), .int (nI rc), .int dy])) (fwd : h (t + 1) = (aI 20 wd)) (fvt : h (t + 3) = (aI 20 vt)) (hrc : rc ≤ 20) (hr : r < 20) : Ctr l K mX2_rankOf [.ref t, .int (nI r)] h n 0 0 (PQ (some (.int (rankI wd vt rc r))) h n) (PX0) := by
  refine Ctr.of hst pn_X2_rankOf (Nat.le_of_ble_eq_true rfl) (fun X hX hr hE => ?_)
  have hX : FX l K X cX2_rankOf RX2 0 0 0 0 := hX
  show GW X 0 [some (.ref t), some (.int (nI r)), none, none] [] h n 0 0
  refine g_iconst (v := (nI 1)) hX dX2_rankOf_0 (by decide) ?_
  refine g_istore_n hX dX2_rankOf_1 rfl (Nat.le_of_ble_eq_true rfl) rfl ?_
  refine g_iconst (v := (nI 0)) hX dX2_rankOf_2 (by decide) ?_
  refine g_istore_n hX dX2_rankOf_3 rfl (Nat.le_of_ble_eq_true rfl) rfl ?_
  refine g_for (P := fun (i : Nat) (s : Int32) => GW X 4 [some (.ref t), some (.int (nI r)), some (.int s), some (.int (nI i))] [] h n 0 0) (step := fun i s => if wd i = wd r ∧ vt r < vt i then s + 1 else s) rc (nI 1) ?_ ?_
  · intro i1 s2 hi1 es2 ihi1
    have ihi1 : GW X 4 [some (.ref t), some (.int (nI r)), some (.int (if wd i1 = wd r ∧ vt r < vt i1 then s2 + 1 else s2)), some (.int (nI (i1 + 1)))] [] h n 0 0 := ihi1
    refine g_iload_n hX dX2_rankOf_4 rfl rfl ?_
    refine g_aload_n hX dX2_rankOf_5 rfl rfl ?_
    refine g_getf hX dX2_rankOf_6 fl_X2_42 (f0) rfl ?_
    refine g_icmp_geN (tgt := 51) hX dX2_rankOf_9 (by decide) (by omega) (fun c3 => absurd c3 (by omega)) (fun c3 => ?_)
    refine g_aload_n hX dX2_rankOf_12 rfl rfl ?_
    refine g_getf hX dX2_rankOf_13 fl_X2_9 (f0) rfl ?_
    refine g_iload_n hX dX2_rankOf_16 rfl rfl ?_
    refine g_iaload hX dX2_rankOf_17 (fwd) (i1) (by omega) rfl (by omega) ?_
    refine g_aload_n hX dX2_rankOf_18 rfl rfl ?_
    refine g_getf hX dX2_rankOf_19 fl_X2_9 (f0) rfl ?_
    refine g_iload_n hX dX2_rankOf_22 rfl rfl ?_
    refine g_iaload hX dX2_rankOf_23 (fwd) (r) (by omega) rfl (by omega) ?_
    refine g_icmp_ne (tgt := 45) hX dX2_rankOf_24 (by decide) (fun c4 => ?_) (fun c4 => ?_)
    · refine g_iinc (v := (nI (i1 + 1))) hX dX2_rankOf_45 rfl rfl (gn_inc _ _) ?_
      refine g_goto (tgt := 4) hX dX2_rankOf_48 (by decide) ?_
      refine g_cv ihi1 (by simp [c3, c4]) rfl
    · refine g_aload_n hX dX2_rankOf_27 rfl rfl ?_
      refine g_getf hX dX2_rankOf_28 fl_X2_18 (f0) rfl ?_
      refine g_iload_n hX dX2_rankOf_31 rfl rfl ?_
      refine g_iaload hX dX2_rankOf_32 (fvt) (i1) (by omega) rfl (by omega) ?_
      refine g_aload_n hX dX2_rankOf_33 rfl rfl ?_
      refine g_getf hX dX2_rankOf_34 fl_X2_18 (f0) rfl ?_
      refine g_iload_n hX dX2_rankOf_37 rfl rfl ?_
      refine g_iaload hX dX2_rankOf_38 (fvt) (r) (by omega) rfl (by omega) ?_
      refine g_icmp_le (tgt := 45) hX dX2_rankOf_39 (by decide) (fun c5 => ?_) (fun c5 => ?_)
      · refine g_iinc (v := (nI (i1 + 1))) hX dX2_rankOf_45 rfl rfl (gn_inc _ _) ?_
        refine g_goto (tgt := 4) hX dX2_rankOf_48 (by decide) ?_
        refine g_cv ihi1 (by simp [c3, c4, c5]) rfl
      · refine g_iinc (v := (s2 + 1)) hX dX2_rankOf_42 rfl rfl (by rfl) ?_
        refine g_iinc (v := (nI (i1 + 1))) hX dX2_rankOf_45 rfl rfl (gn_inc _ _) ?_
        refine g_goto (tgt := 4) hX dX2_rankOf_48 (by decide) ?_
        refine g_cv ihi1 (by simp [c3, c4, c5]) rfl
  · refine g_iload_n hX dX2_rankOf_4 rfl rfl ?_
    refine g_aload_n hX dX2_rankOf_5 rfl rfl ?_
    refine g_getf hX dX2_rankOf_6 fl_X2_42 (f0) rfl ?_
    refine g_icmp_geN (tgt := 51) hX dX2_rankOf_9 (by decide) (by omega) (fun c6 => ?_) (fun c6 => absurd c6 (by omega))
    refine g_iload_n hX dX2_rankOf_51 rfl rfl ?_
    refine g_ireturn hX hr dX2_rankOf_52 (Nat.le_refl _) (Nat.le_refl _)  ?_
    exact ⟨rfl, rfl, rfl⟩
set_option maxRecDepth 20000 in
theorem kX2_ringersIn {l : Launch} {K : gw_K} (hst : l.stackTraces = false) {t rc n : Nat} {dy : Int32} {h : gw_H} {st : Nat → Int32} {b : Int32} (f0 : h t = (oB 2 [.ref (t + 1), .ref (t + 2), .ref (t + 3), .ref (t + 4), .ref (t + 5), .ref (t + 6), .ref (t + 7), .ref (t + 8), .int (nI rc), .int dy])) (fst : h (t + 7) = (aI 20 st)) (hrc : rc ≤ 20) : Ctr l K mX2_ringersIn [.ref t, .int b] h n 0 0 (PQ (some (.int (cntI st rc b))) h n) (PX0) := by
  refine Ctr.of hst pn_X2_ringersIn (Nat.le_of_ble_eq_true rfl) (fun X hX hr hE => ?_)
  have hX : FX l K X cX2_ringersIn RX2 2 42 0 0 := hX
  show GW X 0 [some (.ref t), some (.int b), none, none] [] h n 0 0
  refine g_iconst (v := (nI 0)) hX dX2_ringersIn_0 (by decide) ?_
  refine g_istore_n hX dX2_ringersIn_1 rfl (Nat.le_of_ble_eq_true rfl) rfl ?_
  refine g_iconst (v := (nI 0)) hX dX2_ringersIn_2 (by decide) ?_
  refine g_istore_n hX dX2_ringersIn_3 rfl (Nat.le_of_ble_eq_true rfl) rfl ?_
  refine g_for (P := fun (i : Nat) (s : Int32) => GW X 4 [some (.ref t), some (.int b), some (.int s), some (.int (nI i))] [] h n 0 0) (step := fun i s => if bandI (st i) = b then s + 1 else s) rc (nI 0) ?_ ?_
  · intro i1 s2 hi1 es2 ihi1
    have ihi1 : GW X 4 [some (.ref t), some (.int b), some (.int (if bandI (st i1) = b then s2 + 1 else s2)), some (.int (nI (i1 + 1)))] [] h n 0 0 := ihi1
    refine g_iload_n hX dX2_ringersIn_4 rfl rfl ?_
    refine g_aload_n hX dX2_ringersIn_5 rfl rfl ?_
    refine g_getf hX dX2_ringersIn_6 fl_X2_42 (f0) rfl ?_
    refine g_icmp_geN (tgt := 30) hX dX2_ringersIn_9 (by decide) (by omega) (fun c3 => absurd c3 (by omega)) (fun c3 => ?_)
    refine g_aload_n hX dX2_ringersIn_12 rfl rfl ?_
    refine g_iload_n hX dX2_ringersIn_13 rfl rfl ?_
    refine g_callV (As := [.int (nI i1)]) hX dX2_ringersIn_14 cb_X2_bandOf ml_X2_62 im_X2_bandOf se_X2_bandOf rfl rfl (f0) ⟨_, rfl, rfl⟩ (kX2_bandOf hst (f0) (fst) (by omega)) (Nat.le_of_ble_eq_true rfl) (Nat.le_of_ble_eq_true rfl) (by omega) (by omega) (Nat.le_of_ble_eq_true rfl) GX.no (pq ?_)
    show GW X 17 [some (.ref t), some (.int b), some (.int s2), some (.int (nI i1))] [.int (bandI (st i1))] h n 0 0
    refine g_iload_n hX dX2_ringersIn_17 rfl rfl ?_
    refine g_icmp_ne (tgt := 24) hX dX2_ringersIn_18 (by decide) (fun c4 => ?_) (fun c4 => ?_)
    · refine g_iinc (v := (nI (i1 + 1))) hX dX2_ringersIn_24 rfl rfl (gn_inc _ _) ?_
      refine g_goto (tgt := 4) hX dX2_ringersIn_27 (by decide) ?_
      refine g_cv ihi1 (by simp [c3, c4]) rfl
    · refine g_iinc (v := (s2 + 1)) hX dX2_ringersIn_21 rfl rfl (by rfl) ?_
      refine g_iinc (v := (nI (i1 + 1))) hX dX2_ringersIn_24 rfl rfl (gn_inc _ _) ?_
      refine g_goto (tgt := 4) hX dX2_ringersIn_27 (by decide) ?_
      refine g_cv ihi1 (by simp [c3, c4]) rfl
  · refine g_iload_n hX dX2_ringersIn_4 rfl rfl ?_
    refine g_aload_n hX dX2_ringersIn_5 rfl rfl ?_
    refine g_getf hX dX2_ringersIn_6 fl_X2_42 (f0) rfl ?_
    refine g_icmp_geN (tgt := 30) hX dX2_ringersIn_9 (by decide) (by omega) (fun c5 => ?_) (fun c5 => absurd c5 (by omega))
    refine g_iload_n hX dX2_ringersIn_30 rfl rfl ?_
    refine g_ireturn hX hr dX2_ringersIn_31 (Nat.le_refl _) (Nat.le_refl _)  ?_
    exact ⟨rfl, rfl, rfl⟩
set_option maxRecDepth 20000 in
theorem kX2_ringersAtBells {l : Launch} {K : gw_K} (hst : l.stackTraces = false) {t rc n : Nat} {dy : Int32} {h : gw_H} {st : Nat → Int32}  (f0 : h t = (oB 2 [.ref (t + 1), .ref (t + 2), .ref (t + 3), .ref (t + 4), .ref (t + 5), .ref (t + 6), .ref (t + 7), .ref (t + 8), .int (nI rc), .int dy])) (fst : h (t + 7) = (aI 20 st)) (hrc : rc ≤ 20) : Ctr l K mX2_ringersAtBells [.ref t] h n 0 0 (PQ (some (.int (busyI st rc))) h n) (PX0) := by
  refine Ctr.of hst pn_X2_ringersAtBells (Nat.le_of_ble_eq_true rfl) (fun X hX hr hE => ?_)
  have hX : FX l K X cX2_ringersAtBells RX2 3 65 0 0 := hX
  show GW X 0 [some (.ref t), none, none] [] h n 0 0
  refine g_iconst (v := (nI 0)) hX dX2_ringersAtBells_0 (by decide) ?_
  refine g_istore_n hX dX2_ringersAtBells_1 rfl (Nat.le_of_ble_eq_true rfl) rfl ?_
  refine g_iconst (v := (nI 0)) hX dX2_ringersAtBells_2 (by decide) ?_
  refine g_istore_n hX dX2_ringersAtBells_3 rfl (Nat.le_of_ble_eq_true rfl) rfl ?_
  refine g_for (P := fun (i : Nat) (s : Int32) => GW X 4 [some (.ref t), some (.int s), some (.int (nI i))] [] h n 0 0) (step := fun i s => s + cntI st rc (nI i)) 3 (nI 0) ?_ ?_
  · intro i1 s2 hi1 es2 ihi1
    have ihi1 : GW X 4 [some (.ref t), some (.int (s2 + cntI st rc (nI i1))), some (.int (nI (i1 + 1)))] [] h n 0 0 := ihi1
    refine g_iload_n hX dX2_ringersAtBells_4 rfl rfl ?_
    refine g_iconst (v := (nI 3)) hX dX2_ringersAtBells_5 (by decide) ?_
    refine g_icmp_geN (tgt := 23) hX dX2_ringersAtBells_6 (by decide) (by omega) (fun c3 => absurd c3 (by omega)) (fun c3 => ?_)
    refine g_iload_n hX dX2_ringersAtBells_9 rfl rfl ?_
    refine g_aload_n hX dX2_ringersAtBells_10 rfl rfl ?_
    refine g_iload_n hX dX2_ringersAtBells_11 rfl rfl ?_
    refine g_callV (As := [.int (nI i1)]) hX dX2_ringersAtBells_12 cb_X2_ringersIn ml_X2_76 im_X2_ringersIn se_X2_ringersIn rfl rfl (f0) ⟨_, rfl, rfl⟩ (kX2_ringersIn hst (f0) (fst) (by omega)) (Nat.le_of_ble_eq_true rfl) (Nat.le_of_ble_eq_true rfl) (by omega) (by omega) (Nat.le_of_ble_eq_true rfl) GX.no (pq ?_)
    show GW X 15 [some (.ref t), some (.int s2), some (.int (nI i1))] [.int (cntI st rc (nI i1)), .int s2] h n 0 0
    refine g_iadd hX dX2_ringersAtBells_15 ?_
    refine g_istore_n hX dX2_ringersAtBells_16 rfl (Nat.le_of_ble_eq_true rfl) rfl ?_
    refine g_iinc (v := (nI (i1 + 1))) hX dX2_ringersAtBells_17 rfl rfl (gn_inc _ _) ?_
    refine g_goto (tgt := 4) hX dX2_ringersAtBells_20 (by decide) ?_
    refine g_cv ihi1 (by simp [c3]) rfl
  · refine g_iload_n hX dX2_ringersAtBells_4 rfl rfl ?_
    refine g_iconst (v := (nI 3)) hX dX2_ringersAtBells_5 (by decide) ?_
    refine g_icmp_ge (tgt := 23) hX dX2_ringersAtBells_6 (by decide) (fun _ => ?_) (fun c => absurd (by decide) c)
    refine g_iload_n hX dX2_ringersAtBells_23 rfl rfl ?_
    refine g_ireturn hX hr dX2_ringersAtBells_24 (Nat.le_refl _) (Nat.le_refl _)  ?_
    exact ⟨rfl, rfl, rfl⟩
set_option maxRecDepth 20000 in
theorem kX2_fullBands {l : Launch} {K : gw_K} (hst : l.stackTraces = false) {t rc n : Nat} {dy : Int32} {h : gw_H} {st : Nat → Int32}  (f0 : h t = (oB 2 [.ref (t + 1), .ref (t + 2), .ref (t + 3), .ref (t + 4), .ref (t + 5), .ref (t + 6), .ref (t + 7), .ref (t + 8), .int (nI rc), .int dy])) (fst : h (t + 7) = (aI 20 st)) (hrc : rc ≤ 20) : Ctr l K mX2_fullBands [.ref t] h n 0 0 (PQ (some (.int (fullI st rc))) h n) (PX0) := by
  refine Ctr.of hst pn_X2_fullBands (Nat.le_of_ble_eq_true rfl) (fun X hX hr hE => ?_)
  have hX : FX l K X cX2_fullBands RX2 3 65 0 0 := hX
  show GW X 0 [some (.ref t), none, none] [] h n 0 0
  refine g_iconst (v := (nI 0)) hX dX2_fullBands_0 (by decide) ?_
  refine g_istore_n hX dX2_fullBands_1 rfl (Nat.le_of_ble_eq_true rfl) rfl ?_
  refine g_iconst (v := (nI 0)) hX dX2_fullBands_2 (by decide) ?_
  refine g_istore_n hX dX2_fullBands_3 rfl (Nat.le_of_ble_eq_true rfl) rfl ?_
  refine g_for (P := fun (i : Nat) (s : Int32) => GW X 4 [some (.ref t), some (.int s), some (.int (nI i))] [] h n 0 0) (step := fun i s => if cntI st rc (nI i) = nI 6 then s + 1 else s) 3 (nI 0) ?_ ?_
  · intro i1 s2 hi1 es2 ihi1
    have ihi1 : GW X 4 [some (.ref t), some (.int (if cntI st rc (nI i1) = nI 6 then s2 + 1 else s2)), some (.int (nI (i1 + 1)))] [] h n 0 0 := ihi1
    refine g_iload_n hX dX2_fullBands_4 rfl rfl ?_
    refine g_iconst (v := (nI 3)) hX dX2_fullBands_5 (by decide) ?_
    refine g_icmp_geN (tgt := 28) hX dX2_fullBands_6 (by decide) (by omega) (fun c3 => absurd c3 (by omega)) (fun c3 => ?_)
    refine g_aload_n hX dX2_fullBands_9 rfl rfl ?_
    refine g_iload_n hX dX2_fullBands_10 rfl rfl ?_
    refine g_callV (As := [.int (nI i1)]) hX dX2_fullBands_11 cb_X2_ringersIn ml_X2_76 im_X2_ringersIn se_X2_ringersIn rfl rfl (f0) ⟨_, rfl, rfl⟩ (kX2_ringersIn hst (f0) (fst) (by omega)) (Nat.le_of_ble_eq_true rfl) (Nat.le_of_ble_eq_true rfl) (by omega) (by omega) (Nat.le_of_ble_eq_true rfl) GX.no (pq ?_)
    show GW X 14 [some (.ref t), some (.int s2), some (.int (nI i1))] [.int (cntI st rc (nI i1))] h n 0 0
    refine g_bipush (v := (nI 6)) hX dX2_fullBands_14 (by decide) ?_
    refine g_icmp_ne (tgt := 22) hX dX2_fullBands_16 (by decide) (fun c4 => ?_) (fun c4 => ?_)
    · refine g_iinc (v := (nI (i1 + 1))) hX dX2_fullBands_22 rfl rfl (gn_inc _ _) ?_
      refine g_goto (tgt := 4) hX dX2_fullBands_25 (by decide) ?_
      refine g_cv ihi1 (by simp [c3, c4]) rfl
    · refine g_iinc (v := (s2 + 1)) hX dX2_fullBands_19 rfl rfl (by rfl) ?_
      refine g_iinc (v := (nI (i1 + 1))) hX dX2_fullBands_22 rfl rfl (gn_inc _ _) ?_
      refine g_goto (tgt := 4) hX dX2_fullBands_25 (by decide) ?_
      refine g_cv ihi1 (by simp [c3, c4]) rfl
  · refine g_iload_n hX dX2_fullBands_4 rfl rfl ?_
    refine g_iconst (v := (nI 3)) hX dX2_fullBands_5 (by decide) ?_
    refine g_icmp_ge (tgt := 28) hX dX2_fullBands_6 (by decide) (fun _ => ?_) (fun c => absurd (by decide) c)
    refine g_iload_n hX dX2_fullBands_28 rfl rfl ?_
    refine g_ireturn hX hr dX2_fullBands_29 (Nat.le_refl _) (Nat.le_refl _)  ?_
    exact ⟨rfl, rfl, rfl⟩
set_option maxRecDepth 20000 in
theorem kX2_skillAtBells {l : Launch} {K : gw_K} (hst : l.stackTraces = false) {t rc n : Nat} {dy : Int32} {h : gw_H} {st sk : Nat → Int32}  (f0 : h t = (oB 2 [.ref (t + 1), .ref (t + 2), .ref (t + 3), .ref (t + 4), .ref (t + 5), .ref (t + 6), .ref (t + 7), .ref (t + 8), .int (nI rc), .int dy])) (fst : h (t + 7) = (aI 20 st)) (fsk : h (t + 2) = (aI 20 sk)) (hrc : rc ≤ 20) : Ctr l K mX2_skillAtBells [.ref t] h n 0 0 (PQ (some (.int (skillI st sk rc))) h n) (PX0) := by
  refine Ctr.of hst pn_X2_skillAtBells (Nat.le_of_ble_eq_true rfl) (fun X hX hr hE => ?_)
  have hX : FX l K X cX2_skillAtBells RX2 1 21 0 0 := hX
  show GW X 0 [some (.ref t), none, none] [] h n 0 0
  refine g_iconst (v := (nI 0)) hX dX2_skillAtBells_0 (by decide) ?_
  refine g_istore_n hX dX2_skillAtBells_1 rfl (Nat.le_of_ble_eq_true rfl) rfl ?_
  refine g_iconst (v := (nI 0)) hX dX2_skillAtBells_2 (by decide) ?_
  refine g_istore_n hX dX2_skillAtBells_3 rfl (Nat.le_of_ble_eq_true rfl) rfl ?_
  refine g_for (P := fun (i : Nat) (s : Int32) => GW X 4 [some (.ref t), some (.int s), some (.int (nI i))] [] h n 0 0) (step := fun i s => if st i = -1 then s else s + sk i) rc (nI 0) ?_ ?_
  · intro i1 s2 hi1 es2 ihi1
    have ihi1 : GW X 4 [some (.ref t), some (.int (if st i1 = -1 then s2 else s2 + sk i1)), some (.int (nI (i1 + 1)))] [] h n 0 0 := ihi1
    refine g_iload_n hX dX2_skillAtBells_4 rfl rfl ?_
    refine g_aload_n hX dX2_skillAtBells_5 rfl rfl ?_
    refine g_getf hX dX2_skillAtBells_6 fl_X2_42 (f0) rfl ?_
    refine g_icmp_geN (tgt := 35) hX dX2_skillAtBells_9 (by decide) (by omega) (fun c3 => absurd c3 (by omega)) (fun c3 => ?_)
    refine g_aload_n hX dX2_skillAtBells_12 rfl rfl ?_
    refine g_iload_n hX dX2_skillAtBells_13 rfl rfl ?_
    refine g_callV (As := [.int (nI i1)]) hX dX2_skillAtBells_14 cb_X2_ringsBell ml_X2_58 im_X2_ringsBell se_X2_ringsBell rfl rfl (f0) ⟨_, rfl, rfl⟩ (kX2_ringsBell hst (f0) (fst) (by omega)) (Nat.le_of_ble_eq_true rfl) (Nat.le_of_ble_eq_true rfl) (by omega) (by omega) (Nat.le_of_ble_eq_true rfl) GX.no (pq ?_)
    show GW X 17 [some (.ref t), some (.int s2), some (.int (nI i1))] [.int (if ¬ st i1 = -1 then nI 1 else nI 0)] h n 0 0
    refine g_ifB_eq (tgt := 29) hX dX2_skillAtBells_17 (by decide) (fun c4 => ?_) (fun c4 => ?_)
    · refine g_iinc (v := (nI (i1 + 1))) hX dX2_skillAtBells_29 rfl rfl (gn_inc _ _) ?_
      refine g_goto (tgt := 4) hX dX2_skillAtBells_32 (by decide) ?_
      refine g_cv ihi1 (by simp [c3, c4]) rfl
    · refine g_iload_n hX dX2_skillAtBells_20 rfl rfl ?_
      refine g_aload_n hX dX2_skillAtBells_21 rfl rfl ?_
      refine g_getf hX dX2_skillAtBells_22 fl_X2_15 (f0) rfl ?_
      refine g_iload_n hX dX2_skillAtBells_25 rfl rfl ?_
      refine g_iaload hX dX2_skillAtBells_26 (fsk) (i1) (by omega) rfl (by omega) ?_
      refine g_iadd hX dX2_skillAtBells_27 ?_
      refine g_istore_n hX dX2_skillAtBells_28 rfl (Nat.le_of_ble_eq_true rfl) rfl ?_
      refine g_iinc (v := (nI (i1 + 1))) hX dX2_skillAtBells_29 rfl rfl (gn_inc _ _) ?_
      refine g_goto (tgt := 4) hX dX2_skillAtBells_32 (by decide) ?_
      refine g_cv ihi1 (by simp [c3, c4]) rfl
  · refine g_iload_n hX dX2_skillAtBells_4 rfl rfl ?_
    refine g_aload_n hX dX2_skillAtBells_5 rfl rfl ?_
    refine g_getf hX dX2_skillAtBells_6 fl_X2_42 (f0) rfl ?_
    refine g_icmp_geN (tgt := 35) hX dX2_skillAtBells_9 (by decide) (by omega) (fun c5 => ?_) (fun c5 => absurd c5 (by omega))
    refine g_iload_n hX dX2_skillAtBells_35 rfl rfl ?_
    refine g_ireturn hX hr dX2_skillAtBells_36 (Nat.le_refl _) (Nat.le_refl _)  ?_
    exact ⟨rfl, rfl, rfl⟩
set_option maxRecDepth 20000 in
theorem kX2_allFaults {l : Launch} {K : gw_K} (hst : l.stackTraces = false) {t rc n : Nat} {dy : Int32} {h : gw_H} {fa : Nat → Int32}  (f0 : h t = (oB 2 [.ref (t + 1), .ref (t + 2), .ref (t + 3), .ref (t + 4), .ref (t + 5), .ref (t + 6), .ref (t + 7), .ref (t + 8), .int (nI rc), .int dy])) (ffa : h (t + 5) = (aI 20 fa)) (hrc : rc ≤ 20) : Ctr l K mX2_allFaults [.ref t] h n 0 0 (PQ (some (.int (sumI fa rc))) h n) (PX0) := by
  refine Ctr.of hst pn_X2_allFaults (Nat.le_of_ble_eq_true rfl) (fun X hX hr hE => ?_)
  have hX : FX l K X cX2_allFaults RX2 0 0 0 0 := hX
  show GW X 0 [some (.ref t), none, none] [] h n 0 0
  refine g_iconst (v := (nI 0)) hX dX2_allFaults_0 (by decide) ?_
  refine g_istore_n hX dX2_allFaults_1 rfl (Nat.le_of_ble_eq_true rfl) rfl ?_
  refine g_iconst (v := (nI 0)) hX dX2_allFaults_2 (by decide) ?_
  refine g_istore_n hX dX2_allFaults_3 rfl (Nat.le_of_ble_eq_true rfl) rfl ?_
  refine g_for (P := fun (i : Nat) (s : Int32) => GW X 4 [some (.ref t), some (.int s), some (.int (nI i))] [] h n 0 0) (step := fun i s => s + fa i) rc (nI 0) ?_ ?_
  · intro i1 s2 hi1 es2 ihi1
    have ihi1 : GW X 4 [some (.ref t), some (.int (s2 + fa i1)), some (.int (nI (i1 + 1)))] [] h n 0 0 := ihi1
    refine g_iload_n hX dX2_allFaults_4 rfl rfl ?_
    refine g_aload_n hX dX2_allFaults_5 rfl rfl ?_
    refine g_getf hX dX2_allFaults_6 fl_X2_42 (f0) rfl ?_
    refine g_icmp_geN (tgt := 27) hX dX2_allFaults_9 (by decide) (by omega) (fun c3 => absurd c3 (by omega)) (fun c3 => ?_)
    refine g_iload_n hX dX2_allFaults_12 rfl rfl ?_
    refine g_aload_n hX dX2_allFaults_13 rfl rfl ?_
    refine g_getf hX dX2_allFaults_14 fl_X2_24 (f0) rfl ?_
    refine g_iload_n hX dX2_allFaults_17 rfl rfl ?_
    refine g_iaload hX dX2_allFaults_18 (ffa) (i1) (by omega) rfl (by omega) ?_
    refine g_iadd hX dX2_allFaults_19 ?_
    refine g_istore_n hX dX2_allFaults_20 rfl (Nat.le_of_ble_eq_true rfl) rfl ?_
    refine g_iinc (v := (nI (i1 + 1))) hX dX2_allFaults_21 rfl rfl (gn_inc _ _) ?_
    refine g_goto (tgt := 4) hX dX2_allFaults_24 (by decide) ?_
    refine g_cv ihi1 (by simp [c3]) rfl
  · refine g_iload_n hX dX2_allFaults_4 rfl rfl ?_
    refine g_aload_n hX dX2_allFaults_5 rfl rfl ?_
    refine g_getf hX dX2_allFaults_6 fl_X2_42 (f0) rfl ?_
    refine g_icmp_geN (tgt := 27) hX dX2_allFaults_9 (by decide) (by omega) (fun c4 => ?_) (fun c4 => absurd c4 (by omega))
    refine g_iload_n hX dX2_allFaults_27 rfl rfl ?_
    refine g_ireturn hX hr dX2_allFaults_28 (Nat.le_refl _) (Nat.le_refl _)  ?_
    exact ⟨rfl, rfl, rfl⟩
set_option maxRecDepth 20000 in
theorem kX2_allVotes {l : Launch} {K : gw_K} (hst : l.stackTraces = false) {t rc n : Nat} {dy : Int32} {h : gw_H} {vt : Nat → Int32}  (f0 : h t = (oB 2 [.ref (t + 1), .ref (t + 2), .ref (t + 3), .ref (t + 4), .ref (t + 5), .ref (t + 6), .ref (t + 7), .ref (t + 8), .int (nI rc), .int dy])) (fvt : h (t + 3) = (aI 20 vt)) (hrc : rc ≤ 20) : Ctr l K mX2_allVotes [.ref t] h n 0 0 (PQ (some (.int (sumI vt rc))) h n) (PX0) := by
  refine Ctr.of hst pn_X2_allVotes (Nat.le_of_ble_eq_true rfl) (fun X hX hr hE => ?_)
  have hX : FX l K X cX2_allVotes RX2 0 0 0 0 := hX
  show GW X 0 [some (.ref t), none, none] [] h n 0 0
  refine g_iconst (v := (nI 0)) hX dX2_allVotes_0 (by decide) ?_
  refine g_istore_n hX dX2_allVotes_1 rfl (Nat.le_of_ble_eq_true rfl) rfl ?_
  refine g_iconst (v := (nI 0)) hX dX2_allVotes_2 (by decide) ?_
  refine g_istore_n hX dX2_allVotes_3 rfl (Nat.le_of_ble_eq_true rfl) rfl ?_
  refine g_for (P := fun (i : Nat) (s : Int32) => GW X 4 [some (.ref t), some (.int s), some (.int (nI i))] [] h n 0 0) (step := fun i s => s + vt i) rc (nI 0) ?_ ?_
  · intro i1 s2 hi1 es2 ihi1
    have ihi1 : GW X 4 [some (.ref t), some (.int (s2 + vt i1)), some (.int (nI (i1 + 1)))] [] h n 0 0 := ihi1
    refine g_iload_n hX dX2_allVotes_4 rfl rfl ?_
    refine g_aload_n hX dX2_allVotes_5 rfl rfl ?_
    refine g_getf hX dX2_allVotes_6 fl_X2_42 (f0) rfl ?_
    refine g_icmp_geN (tgt := 27) hX dX2_allVotes_9 (by decide) (by omega) (fun c3 => absurd c3 (by omega)) (fun c3 => ?_)
    refine g_iload_n hX dX2_allVotes_12 rfl rfl ?_
    refine g_aload_n hX dX2_allVotes_13 rfl rfl ?_
    refine g_getf hX dX2_allVotes_14 fl_X2_18 (f0) rfl ?_
    refine g_iload_n hX dX2_allVotes_17 rfl rfl ?_
    refine g_iaload hX dX2_allVotes_18 (fvt) (i1) (by omega) rfl (by omega) ?_
    refine g_iadd hX dX2_allVotes_19 ?_
    refine g_istore_n hX dX2_allVotes_20 rfl (Nat.le_of_ble_eq_true rfl) rfl ?_
    refine g_iinc (v := (nI (i1 + 1))) hX dX2_allVotes_21 rfl rfl (gn_inc _ _) ?_
    refine g_goto (tgt := 4) hX dX2_allVotes_24 (by decide) ?_
    refine g_cv ihi1 (by simp [c3]) rfl
  · refine g_iload_n hX dX2_allVotes_4 rfl rfl ?_
    refine g_aload_n hX dX2_allVotes_5 rfl rfl ?_
    refine g_getf hX dX2_allVotes_6 fl_X2_42 (f0) rfl ?_
    refine g_icmp_geN (tgt := 27) hX dX2_allVotes_9 (by decide) (by omega) (fun c4 => ?_) (fun c4 => absurd c4 (by omega))
    refine g_iload_n hX dX2_allVotes_27 rfl rfl ?_
    refine g_ireturn hX hr dX2_allVotes_28 (Nat.le_refl _) (Nat.le_refl _)  ?_
    exact ⟨rfl, rfl, rfl⟩
set_option maxRecDepth 20000 in
theorem kX2_isFresh {l : Launch} {K : gw_K} (hst : l.stackTraces = false) {t rc n : Nat} {dy : Int32} {h : gw_H} {st ti : Nat → Int32} {b : Int32} (f0 : h t = (oB 2 [.ref (t + 1), .ref (t + 2), .ref (t + 3), .ref (t + 4), .ref (t + 5), .ref (t + 6), .ref (t + 7), .ref (t + 8), .int (nI rc), .int dy])) (fst : h (t + 7) = (aI 20 st)) (fti : h (t + 4) = (aI 20 ti)) (hrc : rc ≤ 20) : Ctr l K mX2_isFresh [.ref t, .int b] h n 0 0 (PQ (some (.int (if freshI st ti rc b = nI 6 then nI 1 else nI 0))) h n) (PX0) := by
  refine Ctr.of hst pn_X2_isFresh (Nat.le_of_ble_eq_true rfl) (fun X hX hr hE => ?_)
  have hX : FX l K X cX2_isFresh RX2 2 42 0 0 := hX
  show GW X 0 [some (.ref t), some (.int b), none, none] [] h n 0 0
  refine g_iconst (v := (nI 0)) hX dX2_isFresh_0 (by decide) ?_
  refine g_istore_n hX dX2_isFresh_1 rfl (Nat.le_of_ble_eq_true rfl) rfl ?_
  refine g_iconst (v := (nI 0)) hX dX2_isFresh_2 (by decide) ?_
  refine g_istore_n hX dX2_isFresh_3 rfl (Nat.le_of_ble_eq_true rfl) rfl ?_
  refine g_for (P := fun (i : Nat) (s : Int32) => GW X 4 [some (.ref t), some (.int b), some (.int s), some (.int (nI i))] [] h n 0 0) (step := fun i s => if bandI (st i) = b ∧ ti i < nI 15 then s + 1 else s) rc (nI 0) ?_ ?_
  · intro i1 s2 hi1 es2 ihi1
    have ihi1 : GW X 4 [some (.ref t), some (.int b), some (.int (if bandI (st i1) = b ∧ ti i1 < nI 15 then s2 + 1 else s2)), some (.int (nI (i1 + 1)))] [] h n 0 0 := ihi1
    refine g_iload_n hX dX2_isFresh_4 rfl rfl ?_
    refine g_aload_n hX dX2_isFresh_5 rfl rfl ?_
    refine g_getf hX dX2_isFresh_6 fl_X2_42 (f0) rfl ?_
    refine g_icmp_geN (tgt := 41) hX dX2_isFresh_9 (by decide) (by omega) (fun c3 => absurd c3 (by omega)) (fun c3 => ?_)
    refine g_aload_n hX dX2_isFresh_12 rfl rfl ?_
    refine g_iload_n hX dX2_isFresh_13 rfl rfl ?_
    refine g_callV (As := [.int (nI i1)]) hX dX2_isFresh_14 cb_X2_bandOf ml_X2_62 im_X2_bandOf se_X2_bandOf rfl rfl (f0) ⟨_, rfl, rfl⟩ (kX2_bandOf hst (f0) (fst) (by omega)) (Nat.le_of_ble_eq_true rfl) (Nat.le_of_ble_eq_true rfl) (by omega) (by omega) (Nat.le_of_ble_eq_true rfl) GX.no (pq ?_)
    show GW X 17 [some (.ref t), some (.int b), some (.int s2), some (.int (nI i1))] [.int (bandI (st i1))] h n 0 0
    refine g_iload_n hX dX2_isFresh_17 rfl rfl ?_
    refine g_icmp_ne (tgt := 35) hX dX2_isFresh_18 (by decide) (fun c4 => ?_) (fun c4 => ?_)
    · refine g_iinc (v := (nI (i1 + 1))) hX dX2_isFresh_35 rfl rfl (gn_inc _ _) ?_
      refine g_goto (tgt := 4) hX dX2_isFresh_38 (by decide) ?_
      refine g_cv ihi1 (by simp [c3, c4]) rfl
    · refine g_aload_n hX dX2_isFresh_21 rfl rfl ?_
      refine g_getf hX dX2_isFresh_22 fl_X2_21 (f0) rfl ?_
      refine g_iload_n hX dX2_isFresh_25 rfl rfl ?_
      refine g_iaload hX dX2_isFresh_26 (fti) (i1) (by omega) rfl (by omega) ?_
      refine g_bipush (v := (nI 15)) hX dX2_isFresh_27 (by decide) ?_
      refine g_icmp_ge (tgt := 35) hX dX2_isFresh_29 (by decide) (fun c5 => ?_) (fun c5 => ?_)
      · refine g_iinc (v := (nI (i1 + 1))) hX dX2_isFresh_35 rfl rfl (gn_inc _ _) ?_
        refine g_goto (tgt := 4) hX dX2_isFresh_38 (by decide) ?_
        refine g_cv ihi1 (by simp [c3, c4, c5]) rfl
      · refine g_iinc (v := (s2 + 1)) hX dX2_isFresh_32 rfl rfl (by rfl) ?_
        refine g_iinc (v := (nI (i1 + 1))) hX dX2_isFresh_35 rfl rfl (gn_inc _ _) ?_
        refine g_goto (tgt := 4) hX dX2_isFresh_38 (by decide) ?_
        refine g_cv ihi1 (by simp [c3, c4, c5]) rfl
  · refine g_iload_n hX dX2_isFresh_4 rfl rfl ?_
    refine g_aload_n hX dX2_isFresh_5 rfl rfl ?_
    refine g_getf hX dX2_isFresh_6 fl_X2_42 (f0) rfl ?_
    refine g_icmp_geN (tgt := 41) hX dX2_isFresh_9 (by decide) (by omega) (fun c6 => ?_) (fun c6 => absurd c6 (by omega))
    refine g_iload_n hX dX2_isFresh_41 rfl rfl ?_
    refine g_bipush (v := (nI 6)) hX dX2_isFresh_42 (by decide) ?_
    refine g_icmp_ne (tgt := 51) hX dX2_isFresh_44 (by decide) (fun c7 => ?_) (fun c7 => ?_)
    · refine g_iconst (v := (nI 0)) hX dX2_isFresh_51 (by decide) ?_
      refine g_zreturn hX hr (by decide) dX2_isFresh_52 (Nat.le_refl _) (Nat.le_refl _)  ?_
      exact ⟨by simp [freshI, c7], rfl, rfl⟩
    · refine g_iconst (v := (nI 1)) hX dX2_isFresh_47 (by decide) ?_
      refine g_goto (tgt := 52) hX dX2_isFresh_48 (by decide) ?_
      refine g_zreturn hX hr (by decide) dX2_isFresh_52 (Nat.le_refl _) (Nat.le_refl _)  ?_
      exact ⟨by simp [freshI, c7], rfl, rfl⟩
set_option maxRecDepth 20000 in
theorem kX2_changeVotes {l : Launch} {K : gw_K} (hst : l.stackTraces = false) {t rc n : Nat} {dy : Int32} {h : gw_H} {vt : Nat → Int32} {r : Nat} {m : Int32} (f0 : h t = (oB 2 [.ref (t + 1), .ref (t + 2), .ref (t + 3), .ref (t + 4), .ref (t + 5), .ref (t + 6), .ref (t + 7), .ref (t + 8), .int (nI rc), .int dy])) (fvt : h (t + 3) = (aI 20 vt)) (hr : r < 20) : Ctr l K mX2_changeVotes [.ref t, .int (nI r), .int m] h n 0 0 (PQ (none) (hs h (t + 3) (aI 20 (upd vt r (clampI (vt r + m))))) n) (PX0) := by
  refine Ctr.of hst pn_X2_changeVotes (Nat.le_of_ble_eq_true rfl) (fun X hX hr hE => ?_)
  have hX : FX l K X cX2_changeVotes RX2 1 21 0 0 := hX
  show GW X 0 [some (.ref t), some (.int (nI r)), some (.int m)] [] h n 0 0
  refine g_aload_n hX dX2_changeVotes_0 rfl rfl ?_
  refine g_getf hX dX2_changeVotes_1 fl_X2_18 (f0) rfl ?_
  refine g_iload_n hX dX2_changeVotes_4 rfl rfl ?_
  refine g_iconst (v := (nI 0)) hX dX2_changeVotes_5 (by decide) ?_
  refine g_bipush (v := (nI 99)) hX dX2_changeVotes_6 (by decide) ?_
  refine g_aload_n hX dX2_changeVotes_8 rfl rfl ?_
  refine g_getf hX dX2_changeVotes_9 fl_X2_18 (f0) rfl ?_
  refine g_iload_n hX dX2_changeVotes_12 rfl rfl ?_
  refine g_iaload hX dX2_changeVotes_13 (fvt) (r) (by omega) rfl (by omega) ?_
  refine g_iload_n hX dX2_changeVotes_14 rfl rfl ?_
  refine g_iadd hX dX2_changeVotes_15 ?_
  refine g_mmin hX dX2_changeVotes_16 ml_X2_49 w_mminS w_mI w_mminC (Nat.le_of_ble_eq_true rfl) (Nat.le_of_ble_eq_true rfl) (by omega) (by omega) ?_
  refine g_mmax hX dX2_changeVotes_19 ml_X2_55 w_mmaxS w_mI w_mmaxC (Nat.le_of_ble_eq_true rfl) (Nat.le_of_ble_eq_true rfl) (by omega) (by omega) ?_
  refine g_iastore hX dX2_changeVotes_22 (fvt) (r) (by omega) rfl (by omega) ?_
  refine g_return hX hr dX2_changeVotes_23 (Nat.le_refl _) (Nat.le_refl _)  ?_
  exact ⟨rfl, rfl, rfl⟩
end
