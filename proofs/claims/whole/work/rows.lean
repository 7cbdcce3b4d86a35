section
-- ===== PART A: goes FIRST, ahead of the names: the tables' words, and 'selects' of the private methods out of them =====
/-- a private method of a class that the tables say can be made, by its rows of tables_1 -/
def lw_okq (q : MethodName × Nat) : Prop := (q.1.cls ≠ "java/lang/invoke/MethodHandle" ∧ q.1.cls ≠ "java/lang/invoke/VarHandle") ∧ Cond.instantiable q.1.cls q.2 ∈ tables_1 ∧ Cond.privateMethod q.1 ∈ tables_1 ∧ Cond.instanceMethod q.1 ∈ tables_1
theorem lw_p0 : lw_okq (⟨"java/lang/Throwable", "fillInStackTrace", "(I)Ljava/lang/Throwable;"⟩, 6) := ⟨⟨by decide +kernel, by decide +kernel⟩, List.mem_of_getElem? (i := 181) (by decide +kernel), List.mem_of_getElem? (i := 179) (by decide +kernel), List.mem_of_getElem? (i := 180) (by decide +kernel)⟩
theorem lw_p1 : lw_okq (⟨"LicenceKeeper", "requireMovable", "(II)V"⟩, 9) := ⟨⟨by decide +kernel, by decide +kernel⟩, List.mem_of_getElem? (i := 21) (by decide +kernel), List.mem_of_getElem? (i := 238) (by decide +kernel), List.mem_of_getElem? (i := 239) (by decide +kernel)⟩
theorem lw_p2 : lw_okq (⟨"LicenceKeeper", "isHost", "(I)Z"⟩, 9) := ⟨⟨by decide +kernel, by decide +kernel⟩, List.mem_of_getElem? (i := 21) (by decide +kernel), List.mem_of_getElem? (i := 243) (by decide +kernel), List.mem_of_getElem? (i := 244) (by decide +kernel)⟩
theorem lw_p3 : lw_okq (⟨"LicenceKeeper", "requireRoomForRight", "()V"⟩, 9) := ⟨⟨by decide +kernel, by decide +kernel⟩, List.mem_of_getElem? (i := 21) (by decide +kernel), List.mem_of_getElem? (i := 311) (by decide +kernel), List.mem_of_getElem? (i := 312) (by decide +kernel)⟩
theorem lw_p4 : lw_okq (⟨"LicenceKeeper", "addRight", "(IIII)I"⟩, 9) := ⟨⟨by decide +kernel, by decide +kernel⟩, List.mem_of_getElem? (i := 21) (by decide +kernel), List.mem_of_getElem? (i := 316) (by decide +kernel), List.mem_of_getElem? (i := 317) (by decide +kernel)⟩
theorem lw_p5 : lw_okq (⟨"java/util/ArrayList", "add", "(Ljava/lang/Object;[Ljava/lang/Object;I)V"⟩, 3) := ⟨⟨by decide +kernel, by decide +kernel⟩, List.mem_of_getElem? (i := 31) (by decide +kernel), List.mem_of_getElem? (i := 354) (by decide +kernel), List.mem_of_getElem? (i := 355) (by decide +kernel)⟩
theorem lw_p6 : lw_okq (⟨"java/util/ArrayList", "grow", "()[Ljava/lang/Object;"⟩, 3) := ⟨⟨by decide +kernel, by decide +kernel⟩, List.mem_of_getElem? (i := 31) (by decide +kernel), List.mem_of_getElem? (i := 358) (by decide +kernel), List.mem_of_getElem? (i := 359) (by decide +kernel)⟩
theorem lw_p7 : lw_okq (⟨"java/util/ArrayList", "grow", "(I)[Ljava/lang/Object;"⟩, 3) := ⟨⟨by decide +kernel, by decide +kernel⟩, List.mem_of_getElem? (i := 31) (by decide +kernel), List.mem_of_getElem? (i := 362) (by decide +kernel), List.mem_of_getElem? (i := 363) (by decide +kernel)⟩
theorem lw_p8 : lw_okq (⟨"LicenceKeeper", "rightAt", "(I)LLicenceKeeper$Right;"⟩, 9) := ⟨⟨by decide +kernel, by decide +kernel⟩, List.mem_of_getElem? (i := 21) (by decide +kernel), List.mem_of_getElem? (i := 412) (by decide +kernel), List.mem_of_getElem? (i := 413) (by decide +kernel)⟩
theorem lw_p9 : lw_okq (⟨"LicenceKeeper", "weightOn", "(II)I"⟩, 9) := ⟨⟨by decide +kernel, by decide +kernel⟩, List.mem_of_getElem? (i := 21) (by decide +kernel), List.mem_of_getElem? (i := 472) (by decide +kernel), List.mem_of_getElem? (i := 473) (by decide +kernel)⟩
theorem lw_p10 : lw_okq (⟨"LicenceKeeper", "coverOn", "(LLicenceKeeper$Right;I[I)I"⟩, 9) := ⟨⟨by decide +kernel, by decide +kernel⟩, List.mem_of_getElem? (i := 21) (by decide +kernel), List.mem_of_getElem? (i := 483) (by decide +kernel), List.mem_of_getElem? (i := 484) (by decide +kernel)⟩
theorem lw_p11 : lw_okq (⟨"LicenceKeeper", "leastUncovered", "(I[I)I"⟩, 9) := ⟨⟨by decide +kernel, by decide +kernel⟩, List.mem_of_getElem? (i := 21) (by decide +kernel), List.mem_of_getElem? (i := 494) (by decide +kernel), List.mem_of_getElem? (i := 495) (by decide +kernel)⟩
theorem lw_p12 : lw_okq (⟨"LicenceKeeper", "layAllBut", "(II[I)V"⟩, 9) := ⟨⟨by decide +kernel, by decide +kernel⟩, List.mem_of_getElem? (i := 21) (by decide +kernel), List.mem_of_getElem? (i := 498) (by decide +kernel), List.mem_of_getElem? (i := 499) (by decide +kernel)⟩
theorem lw_p13 : lw_okq (⟨"LicenceKeeper", "startLayings", "(I)V"⟩, 9) := ⟨⟨by decide +kernel, by decide +kernel⟩, List.mem_of_getElem? (i := 21) (by decide +kernel), List.mem_of_getElem? (i := 502) (by decide +kernel), List.mem_of_getElem? (i := 503) (by decide +kernel)⟩
theorem lw_p14 : lw_okq (⟨"LicenceKeeper", "takeUp", "(LLicenceKeeper$Right;[I)V"⟩, 9) := ⟨⟨by decide +kernel, by decide +kernel⟩, List.mem_of_getElem? (i := 21) (by decide +kernel), List.mem_of_getElem? (i := 516) (by decide +kernel), List.mem_of_getElem? (i := 517) (by decide +kernel)⟩
theorem lw_p15 : lw_okq (⟨"LicenceKeeper", "takenOn", "(LLicenceKeeper$Right;I)I"⟩, 9) := ⟨⟨by decide +kernel, by decide +kernel⟩, List.mem_of_getElem? (i := 21) (by decide +kernel), List.mem_of_getElem? (i := 520) (by decide +kernel), List.mem_of_getElem? (i := 521) (by decide +kernel)⟩
def lw_privs_1 : List (MethodName × Nat) := [(⟨"java/lang/Throwable", "fillInStackTrace", "(I)Ljava/lang/Throwable;"⟩, 6), (⟨"LicenceKeeper", "requireMovable", "(II)V"⟩, 9), (⟨"LicenceKeeper", "isHost", "(I)Z"⟩, 9), (⟨"LicenceKeeper", "requireRoomForRight", "()V"⟩, 9), (⟨"LicenceKeeper", "addRight", "(IIII)I"⟩, 9), (⟨"java/util/ArrayList", "add", "(Ljava/lang/Object;[Ljava/lang/Object;I)V"⟩, 3), (⟨"java/util/ArrayList", "grow", "()[Ljava/lang/Object;"⟩, 3), (⟨"java/util/ArrayList", "grow", "(I)[Ljava/lang/Object;"⟩, 3), (⟨"LicenceKeeper", "rightAt", "(I)LLicenceKeeper$Right;"⟩, 9), (⟨"LicenceKeeper", "weightOn", "(II)I"⟩, 9), (⟨"LicenceKeeper", "coverOn", "(LLicenceKeeper$Right;I[I)I"⟩, 9), (⟨"LicenceKeeper", "leastUncovered", "(I[I)I"⟩, 9), (⟨"LicenceKeeper", "layAllBut", "(II[I)V"⟩, 9), (⟨"LicenceKeeper", "startLayings", "(I)V"⟩, 9), (⟨"LicenceKeeper", "takeUp", "(LLicenceKeeper$Right;[I)V"⟩, 9), (⟨"LicenceKeeper", "takenOn", "(LLicenceKeeper$Right;I)I"⟩, 9)]
theorem lw_r1 : ∀ q ∈ lw_privs_1, lw_okq q := List.forall_mem_cons.mpr ⟨lw_p0, List.forall_mem_cons.mpr ⟨lw_p1, List.forall_mem_cons.mpr ⟨lw_p2, List.forall_mem_cons.mpr ⟨lw_p3, List.forall_mem_cons.mpr ⟨lw_p4, List.forall_mem_cons.mpr ⟨lw_p5, List.forall_mem_cons.mpr ⟨lw_p6, List.forall_mem_cons.mpr ⟨lw_p7, List.forall_mem_cons.mpr ⟨lw_p8, List.forall_mem_cons.mpr ⟨lw_p9, List.forall_mem_cons.mpr ⟨lw_p10, List.forall_mem_cons.mpr ⟨lw_p11, List.forall_mem_cons.mpr ⟨lw_p12, List.forall_mem_cons.mpr ⟨lw_p13, List.forall_mem_cons.mpr ⟨lw_p14, List.forall_mem_cons.mpr ⟨lw_p15, fun _ h => absurd h List.not_mem_nil⟩⟩⟩⟩⟩⟩⟩⟩⟩⟩⟩⟩⟩⟩⟩⟩
theorem lw_p16 : lw_okq (⟨"LicenceKeeper$Layings", "isLess", "(II)Z"⟩, 7) := ⟨⟨by decide +kernel, by decide +kernel⟩, List.mem_of_getElem? (i := 58) (by decide +kernel), List.mem_of_getElem? (i := 538) (by decide +kernel), List.mem_of_getElem? (i := 539) (by decide +kernel)⟩
theorem lw_p17 : lw_okq (⟨"LicenceKeeper", "requireFewRights", "(I)V"⟩, 9) := ⟨⟨by decide +kernel, by decide +kernel⟩, List.mem_of_getElem? (i := 21) (by decide +kernel), List.mem_of_getElem? (i := 561) (by decide +kernel), List.mem_of_getElem? (i := 562) (by decide +kernel)⟩
theorem lw_p18 : lw_okq (⟨"LicenceKeeper$Layings", "coverOfSet", "(II)I"⟩, 7) := ⟨⟨by decide +kernel, by decide +kernel⟩, List.mem_of_getElem? (i := 58) (by decide +kernel), List.mem_of_getElem? (i := 570) (by decide +kernel), List.mem_of_getElem? (i := 571) (by decide +kernel)⟩
theorem lw_p19 : lw_okq (⟨"LicenceKeeper$Layings", "addToAll", "(I)V"⟩, 7) := ⟨⟨by decide +kernel, by decide +kernel⟩, List.mem_of_getElem? (i := 58) (by decide +kernel), List.mem_of_getElem? (i := 574) (by decide +kernel), List.mem_of_getElem? (i := 575) (by decide +kernel)⟩
theorem lw_p20 : lw_okq (⟨"LicenceKeeperModel", "fails", "(I)I"⟩, 19) := ⟨⟨by decide +kernel, by decide +kernel⟩, List.mem_of_getElem? (i := 598) (by decide +kernel), List.mem_of_getElem? (i := 677) (by decide +kernel), List.mem_of_getElem? (i := 678) (by decide +kernel)⟩
theorem lw_p21 : lw_okq (⟨"LicenceKeeperModel", "refuses", "(II)I"⟩, 19) := ⟨⟨by decide +kernel, by decide +kernel⟩, List.mem_of_getElem? (i := 598) (by decide +kernel), List.mem_of_getElem? (i := 685) (by decide +kernel), List.mem_of_getElem? (i := 686) (by decide +kernel)⟩
theorem lw_p22 : lw_okq (⟨"LicenceKeeperModel", "isHost", "(I)Z"⟩, 19) := ⟨⟨by decide +kernel, by decide +kernel⟩, List.mem_of_getElem? (i := 598) (by decide +kernel), List.mem_of_getElem? (i := 689) (by decide +kernel), List.mem_of_getElem? (i := 690) (by decide +kernel)⟩
theorem lw_p23 : lw_okq (⟨"LicenceKeeperModel", "lays", "(IIII)I"⟩, 19) := ⟨⟨by decide +kernel, by decide +kernel⟩, List.mem_of_getElem? (i := 598) (by decide +kernel), List.mem_of_getElem? (i := 712) (by decide +kernel), List.mem_of_getElem? (i := 713) (by decide +kernel)⟩
theorem lw_p24 : lw_okq (⟨"LicenceKeeperModel", "isRight", "(I)Z"⟩, 19) := ⟨⟨by decide +kernel, by decide +kernel⟩, List.mem_of_getElem? (i := 598) (by decide +kernel), List.mem_of_getElem? (i := 720) (by decide +kernel), List.mem_of_getElem? (i := 721) (by decide +kernel)⟩
theorem lw_p25 : lw_okq (⟨"LicenceKeeperModel", "weighs", "(II)I"⟩, 19) := ⟨⟨by decide +kernel, by decide +kernel⟩, List.mem_of_getElem? (i := 598) (by decide +kernel), List.mem_of_getElem? (i := 760) (by decide +kernel), List.mem_of_getElem? (i := 761) (by decide +kernel)⟩
theorem lw_p26 : lw_okq (⟨"LicenceKeeperModel", "covered", "(II)I"⟩, 19) := ⟨⟨by decide +kernel, by decide +kernel⟩, List.mem_of_getElem? (i := 598) (by decide +kernel), List.mem_of_getElem? (i := 768) (by decide +kernel), List.mem_of_getElem? (i := 769) (by decide +kernel)⟩
theorem lw_p27 : lw_okq (⟨"LicenceKeeperModel", "least", "(I)I"⟩, 19) := ⟨⟨by decide +kernel, by decide +kernel⟩, List.mem_of_getElem? (i := 598) (by decide +kernel), List.mem_of_getElem? (i := 776) (by decide +kernel), List.mem_of_getElem? (i := 777) (by decide +kernel)⟩
theorem lw_p28 : lw_okq (⟨"LicenceKeeperModel", "spreads", "(I)V"⟩, 19) := ⟨⟨by decide +kernel, by decide +kernel⟩, List.mem_of_getElem? (i := 598) (by decide +kernel), List.mem_of_getElem? (i := 780) (by decide +kernel), List.mem_of_getElem? (i := 781) (by decide +kernel)⟩
def lw_privs_2 : List (MethodName × Nat) := [(⟨"LicenceKeeper$Layings", "isLess", "(II)Z"⟩, 7), (⟨"LicenceKeeper", "requireFewRights", "(I)V"⟩, 9), (⟨"LicenceKeeper$Layings", "coverOfSet", "(II)I"⟩, 7), (⟨"LicenceKeeper$Layings", "addToAll", "(I)V"⟩, 7), (⟨"LicenceKeeperModel", "fails", "(I)I"⟩, 19), (⟨"LicenceKeeperModel", "refuses", "(II)I"⟩, 19), (⟨"LicenceKeeperModel", "isHost", "(I)Z"⟩, 19), (⟨"LicenceKeeperModel", "lays", "(IIII)I"⟩, 19), (⟨"LicenceKeeperModel", "isRight", "(I)Z"⟩, 19), (⟨"LicenceKeeperModel", "weighs", "(II)I"⟩, 19), (⟨"LicenceKeeperModel", "covered", "(II)I"⟩, 19), (⟨"LicenceKeeperModel", "least", "(I)I"⟩, 19), (⟨"LicenceKeeperModel", "spreads", "(I)V"⟩, 19)]
theorem lw_r2 : ∀ q ∈ lw_privs_2, lw_okq q := List.forall_mem_cons.mpr ⟨lw_p16, List.forall_mem_cons.mpr ⟨lw_p17, List.forall_mem_cons.mpr ⟨lw_p18, List.forall_mem_cons.mpr ⟨lw_p19, List.forall_mem_cons.mpr ⟨lw_p20, List.forall_mem_cons.mpr ⟨lw_p21, List.forall_mem_cons.mpr ⟨lw_p22, List.forall_mem_cons.mpr ⟨lw_p23, List.forall_mem_cons.mpr ⟨lw_p24, List.forall_mem_cons.mpr ⟨lw_p25, List.forall_mem_cons.mpr ⟨lw_p26, List.forall_mem_cons.mpr ⟨lw_p27, List.forall_mem_cons.mpr ⟨lw_p28, fun _ h => absurd h List.not_mem_nil⟩⟩⟩⟩⟩⟩⟩⟩⟩⟩⟩⟩⟩
def lw_privs : List (MethodName × Nat) := lw_privs_1 ++ (lw_privs_2)
def lw_tbl : List Cond := k2_sels lw_privs ++ tables_1
theorem lw_privs_ok : ∀ q ∈ lw_privs, lw_okq q := by
  show ∀ q ∈ lw_privs_1 ++ (lw_privs_2), lw_okq q
  exact List.forall_mem_append.mpr ⟨lw_r1, lw_r2⟩
end
section
/-! ===== BEGIN words of one list among another's, by their places ===== -/
theorem goodIn_r {big : List Cond} (ws : List Cond) (ps : List Nat) (hp : ws = ps.filterMap (fun i => big[i]?)) (h : ws.all goodWord = true) : GoodIn big ws := by
  intro w hw
  have h1 := List.all_eq_true.mp h w hw
  rw [hp] at hw
  obtain ⟨i, -, hi⟩ := List.mem_filterMap.mp hw
  have hm : w ∈ big := by first | exact List.mem_of_getElem? hi | exact List.getElem?_mem hi
  exact ⟨hm, good_of_word h1⟩
theorem goodIn_app {big a b : List Cond} (ha : GoodIn big a) (hb : GoodIn big b) : GoodIn big (a ++ b) := fun w h => (List.mem_append.mp h).elim (ha w) (hb w)
theorem goodIn_ca {big a b : List Cond} {c : Cond} (ha : GoodIn big (c :: a)) (hb : GoodIn big b) : GoodIn big (c :: (a ++ b)) := fun w h => (List.mem_cons.mp h).elim (fun e => ha w (List.mem_cons.mpr (Or.inl e))) (fun h => (List.mem_append.mp h).elim (fun h => ha w (List.mem_cons.mpr (Or.inr h))) (hb w))
theorem goodIn_sub {big ws : List Cond} (hm : ∀ w ∈ ws, w ∈ big) (h : ws.all goodWord = true) : GoodIn big ws := fun w hw => ⟨hm w hw, good_of_word (List.all_eq_true.mp h w hw)⟩
/-! ===== END ===== -/

/-! ===== BEGIN exceptions that leave a method, and their catching by the caller (launches without stack traces) ===== -/
section VXA
/-! The laws vx_back, vx_callV, vx_callS, vx_callSW, vx_throw0, vx_throwS follow proofs of the library, with one case more: JvmDerived/Free/Laws.lean (Back.of_free), Shelf42/LK1.lean (callV, callS), Shelf/KitTraced.lean (throwNew0V, throwNewS). -/
/-- where a method has thrown q: the class by its name, the cell, what was written, the world -/
def vx_T (XC : String → State → State → Prop) (st : State) (q : Addr) (t : State) (mc ms : Nat) (free : Addr → Prop) : Prop :=
  ∃ (E : String) (ce : Cell) (L : List Loc), XC E st t ∧ t.heap[q]? = some ce ∧ ce.vm = .none ∧ st.vm.findClass E = some ce.cls ∧ st.WarmedH t.vm ∧ st.sameButNew ({ t with vm := st.vm } : State) L mc ms ∧ ∀ z ∈ L, free z.base
def vx_Q (Qc : Array Value → State → Outcome → State → Prop) (XC : String → State → State → Prop) (mc ms : Nat) (free : Addr → Prop) : Array Value → State → Outcome → State → Prop := fun a st o t =>
  (Qc a st o t ∧ ∃ L, FrameEnd st o t L mc ms ∧ ∀ q ∈ L, free q.base) ∨ ∃ q, o = .threw q ∧ vx_T XC st q t mc ms free
/-- a callee that returns or throws -/
def vx_Met (l : Launch) (y : MethodName) (ws : List Cond) (rm : Room) (Pc : Array Value → State → Prop) (Qc : Array Value → State → Outcome → State → Prop) (XC : String → State → State → Prop) (mc ms : Nat) (free : Addr → Prop) : Prop :=
  MetFree l y (headSpec ws rm) Pc (fun _ _ _ _ _ => True) (vx_Q Qc XC mc ms free)
def vx_Post (XC : String → State → State → Prop) (mc ms : Nat) (free : Addr → Prop) : Pt → Array Value → Addr → Pt → Prop := fun A a q B =>
  ∃ (g : JFrame) (mk : MethodId) (t : State) (L : List Loc) (E : String) (ce : Cell), B.U.heap = t.heap ∧ B.U.vm = t.vm ∧ XC E (A.U.calling g mk a) t ∧ t.heap[q]? = some ce ∧ ce.vm = .none ∧ A.U.vm.findClass E = some ce.cls ∧ B.locs = A.locs ++ L ∧ (∀ z ∈ L, free z.base) ∧ B.cells = A.cells + mc ∧ B.slots = A.slots + ms
def vx_Back (l : Launch) (R : Room) (p : Program) (e : Env) (below : List Frame) (s : State) (sargs : Array Value) (y : MethodName) (len W9 : Nat)
    (Pre : Pt → Array Value → Prop) (Post : Pt → Array Value → Option Value → Pt → Prop) (PostX : Pt → Array Value → Addr → Pt → Prop) : Prop :=
  ∀ (m : MethodId) (meth : Method) (c : Code) (A : Pt) (g : JFrame) (ig : Instr) (mk : MethodId) (a : Array Value),
    Stand p l e R s m sargs below meth c A.U A.locs A.cells A.slots → g.method = m → g.locals.size = c.maxLocals → decode c.code g.pc = .ok (ig, len) →
    2 * g.monitorRoom + (g.stack.map fun v => v.category).sum ≤ W9 → A.U.methodNamed? y = some mk → Pre A a →
    (∃ (v : Option Value) (B : Pt), Stand p l e R s m sargs below meth c B.U B.locs B.cells B.slots ∧ Post A a v B ∧
      Steps p.tables e below (doInvoke e (A.U.setTop g) [] mk a).1 (B.U.setTop { g with pc := g.pc + len, stack := v.toList ++ g.stack })) ∨
    (∃ (q : Addr) (B : Pt), Stand p l e R s m sargs below meth c B.U B.locs B.cells B.slots ∧ PostX A a q B ∧
      Steps p.tables e below (doInvoke e (A.U.setTop g) [] mk a).1 ((B.U.setTop g).pushFrame (.throwing q)))
section Payer
variable {l : Launch} {R : Room} {p : Program} {e : Env} {below : List Frame} {s : State} {sargs : Array Value} {y : MethodName} {len W9 : Nat}
theorem vx_back {ws : List Cond} {rm : Room} {Pc : Array Value → State → Prop} {Qc : Array Value → State → Outcome → State → Prop} {XC : String → State → State → Prop} {mc ms : Nat} {free : Addr → Prop} {bytes : ByteArray} {maxL : Nat} {ret : Option FieldType}
    (hM : vx_Met l y ws rm Pc Qc XC mc ms free) (hblind : FrameBlind Pc) (hrc : rm.cells = mc) (hrs : rm.slots = ms)
    (hframes : rm.frames + 1 ≤ R.frames) (hlocals : W9 + (maxL + 11) + rm.locals ≤ R.locals)
    (hws : ∀ w ∈ ws, ∀ a' U, s.WarmedH U.vm → w.before a' U = true) (hcode : Cond.code y bytes maxL ret ∈ ws) (hinit : ∀ a' U, s.WarmedH U.vm → (Cond.initialized y.cls).before a' U = true) :
    vx_Back l R p e below s sargs y len W9 (PreOf R mc ms Pc) (PostOf Qc mc ms free) (vx_Post XC mc ms free) := by
  intro m meth c A g ig mk a X hg hsize hdg hW hn hp
  have h1 : (headSpec ws rm).pre.before a A.U = true := atoms_intro fun w hw => hws w hw _ _ X.warmed
  have h2 : (Cond.code y bytes maxL ret).before a A.U = true := hws _ hcode _ _ X.warmed
  have h3 : (Cond.initialized y.cls).before a A.U = true := hinit _ _ X.warmed
  have h4 : A.cells + (headSpec ws rm).room.cells ≤ R.cells := by rw [show (headSpec ws rm).room.cells = mc from hrc]; exact hp.1
  have h5 : A.slots + (headSpec ws rm).room.slots ≤ R.slots := by rw [show (headSpec ws rm).room.slots = ms from hrs]; exact hp.2.1
  have hPc : Pc a (A.U.calling g mk a) := hblind _ _ _ _ hp.2.2
  obtain ⟨U, Ls, c0, s0⟩ := A
  dsimp only [Pt.U, Pt.locs, Pt.cells, Pt.slots] at h1 h2 h3 h4 h5 X hn hPc ⊢
  obtain ⟨methY, cY, hmY, hcY, -, hlY, -, -, -, -⟩ := Cond.code_spec hn h2
  obtain ⟨kY, hkY, -⟩ := className_of_methodNamed hn
  have hinitY : kY.init = .initialized := Cond.initialized_spec (findClass_of_methodNamed hn) hkY h3
  have h : At U g.method c below := by rw [hg]; exact X.here
  have hlocals9 : W9 + (maxL + 11) + (headSpec ws rm).room.locals ≤ R.locals := hlocals
  have happ : (headSpec ws rm).appliesLoose y e.platform (U.calling g mk a) = true :=
    Spec.appliesLoose_calling (g := g) h hdg hn hkY hinitY
      (X.room_calling (g := g) (R' := (headSpec ws rm).room) hsize hmY hcY hframes (by rw [hlY]; omega) h4 h5) h1
  obtain ⟨mid, hmid⟩ := h.above
  have hfr : (U.setTop g).frames = (.java g :: mid) ++ below := by rw [State.frames_setTop' g h.top, hmid]; rfl
  obtain ⟨o, s₂, hsteps, -, hend, hq⟩ := Steps.callFree hM p X.admits X.cas X.clock (acts := []) hfr happ hPc trivial
  have hq' : vx_Q Qc XC mc ms free a (U.calling g mk a) o s₂ := hq
  rw [State.frames_setTop' g h.top] at hend
  obtain ⟨g₀, hg0⟩ := Option.isSome_iff_exists.mp h.top
  obtain ⟨r, hr⟩ := State.topJava?_eq_some.mp hg0
  have hr' : (({ U with heap := s₂.heap, slotsUsed := s₂.slotsUsed } : State).setVm s₂.vm).frames = .java g₀ :: r := hr
  rcases hq' with ⟨hqc, L, hfe, hL⟩ | ⟨q, rfl, E, ce, L, hx, hce, hcv, hcl, hW₂, hsm, hL⟩
  · obtain ⟨⟨v, rfl⟩, hW₂, e2, q2, q3, q4, q5, q6⟩ := id hfe
    have e3 : s₂ = ({ (U.calling g mk a).setFrames s₂.frames with heap := s₂.heap, slotsUsed := s₂.slotsUsed } : State).setVm s₂.vm := by
      have : s₂ = ({ s₂ with vm := (U.calling g mk a).vm } : State).setVm s₂.vm := rfl
      rw [e2] at this
      exact this
    obtain ⟨c₂, i₂, len₂, hc₂, hd₂, hf₂⟩ := hend
    have hW' : U.WarmedH s₂.vm := hW₂
    have hcc : c₂ = c := by
      have h1 : s₂.code? g.method = U.code? g.method := by
        rw [State.code?_eq, State.code?_eq, hW'.alike.method?]
      exact Option.some.inj (hc₂.symm.trans (h1.trans h.code))
    subst hcc
    have hlen : len₂ = len := by rw [hdg] at hd₂; cases hd₂; rfl
    subst hlen
    have hs₂ : s₂ = (({ U with heap := s₂.heap, slotsUsed := s₂.slotsUsed } : State).setVm s₂.vm).setTop { g with pc := g.pc + len₂, stack := v.toList ++ g.stack } := by
      refine e3.trans ?_
      rw [hf₂, State.calling_eq h.top, State.setFrames_setFrames, State.setTop_of_frames _ hr', hr]
      rfl
    have hsame : U.sameButNew ({ U with heap := s₂.heap, slotsUsed := s₂.slotsUsed } : State) L mc ms := by
      refine ⟨?_, q2, q3, q4, q5, q6⟩
      obtain ⟨t, ht, -⟩ := State.frames_cons hr
      show ({ U with heap := s₂.heap, slotsUsed := s₂.slotsUsed } : State) = { U.setFrames U.frames with heap := s₂.heap, slotsUsed := s₂.slotsUsed }
      rw [State.setFrames_self ht]
    subst hg
    refine Or.inl ⟨v, ⟨(({ U with heap := s₂.heap, slotsUsed := s₂.slotsUsed } : State).setVm s₂.vm), Ls ++ L, c0 + mc, s0 + ms⟩,
      ⟨X.admits, X.cas, X.clock, X.frames, X.room, X.hears, X.method, X.code, (X.here.setHeapUsed s₂.heap s₂.slotsUsed).setVm hW'.alike, X.tail, State.WarmedH.trans X.warmed hW', X.limits, X.bytes, X.same.trans (hsame.setVm s.vm)⟩,
      ⟨g, mk, s₂, L, rfl, rfl, hqc, rfl, hL, rfl, rfl⟩, ?_⟩
    show Steps p.tables e below _ ((({ U with heap := s₂.heap, slotsUsed := s₂.slotsUsed } : State).setVm s₂.vm).setTop { g with pc := g.pc + len₂, stack := v.toList ++ g.stack })
    rw [← hs₂]
    exact hsteps
  · obtain ⟨e2, q2, q3, q4, q5, q6⟩ := id hsm
    have e3 : s₂ = ({ (U.calling g mk a).setFrames s₂.frames with heap := s₂.heap, slotsUsed := s₂.slotsUsed } : State).setVm s₂.vm := by
      have : s₂ = ({ s₂ with vm := (U.calling g mk a).vm } : State).setVm s₂.vm := rfl
      rw [e2] at this
      exact this
    have hf₂ : s₂.frames = .throwing q :: .java g :: U.frames.tail := hend
    have hW' : U.WarmedH s₂.vm := hW₂
    have hs₂ : s₂ = ((({ U with heap := s₂.heap, slotsUsed := s₂.slotsUsed } : State).setVm s₂.vm).setTop g).pushFrame (.throwing q) := by
      refine e3.trans ?_
      rw [hf₂, State.calling_eq h.top, State.setFrames_setFrames, State.pushFrame, State.frames_setTop _ hr', State.setTop_of_frames _ hr', State.setFrames_setFrames, hr]
      rfl
    have hsame : U.sameButNew ({ U with heap := s₂.heap, slotsUsed := s₂.slotsUsed } : State) L mc ms := by
      refine ⟨?_, q2, q3, q4, q5, q6⟩
      obtain ⟨t, ht, -⟩ := State.frames_cons hr
      show ({ U with heap := s₂.heap, slotsUsed := s₂.slotsUsed } : State) = { U.setFrames U.frames with heap := s₂.heap, slotsUsed := s₂.slotsUsed }
      rw [State.setFrames_self ht]
    subst hg
    refine Or.inr ⟨q, ⟨(({ U with heap := s₂.heap, slotsUsed := s₂.slotsUsed } : State).setVm s₂.vm), Ls ++ L, c0 + mc, s0 + ms⟩,
      ⟨X.admits, X.cas, X.clock, X.frames, X.room, X.hears, X.method, X.code, (X.here.setHeapUsed s₂.heap s₂.slotsUsed).setVm hW'.alike, X.tail, State.WarmedH.trans X.warmed hW', X.limits, X.bytes, X.same.trans (hsame.setVm s.vm)⟩,
      ⟨g, mk, s₂, L, E, ce, rfl, rfl, hx, hce, hcv, hcl, rfl, hL, rfl, rfl⟩, ?_⟩
    show Steps p.tables e below _ (((({ U with heap := s₂.heap, slotsUsed := s₂.slotsUsed } : State).setVm s₂.vm).setTop g).pushFrame (.throwing q))
    rw [← hs₂]
    exact hsteps
end Payer
section Calls
variable {p : Program} {l : Launch} {e : Env} {R : Room} {s : State} {m : MethodId} {args : Array Value} {below : List Frame} {meth : Method} {c : Code} {T : State} {locs : List Loc} {cells slots : Nat}
theorem vx_callV (X : Stand p l e R s m args below meth c T locs cells slots) (hexec : p.tables.exec = Jvm.exec) {own C : String} {index : Nat} {y : MethodName} {bytes : ByteArray} {maxL : Nat} {ret : Option FieldType}
    (hown : s.vm.findClass own = some m.cls) (hlink : (Cond.methodLink own index y).before args s = true) (hinst : (Cond.instanceMethod y).before args s = true) (hsel : (Cond.selects C y y).before args s = true)
    (hcode : (Cond.code y bytes maxL ret).before args s = true) (hy : y.cls ≠ "java/lang/invoke/MethodHandle" ∧ y.cls ≠ "java/lang/invoke/VarHandle")
    {W9 : Nat} {Pre : Pt → Array Value → Prop} {Post : Pt → Array Value → Option Value → Pt → Prop} {PostX : Pt → Array Value → Addr → Pt → Prop} (hK : vx_Back l R p e below s args y 3 W9 Pre Post PostX)
    {b : Addr} {cellB : Cell} (hcell : T.heap[b]? = some cellB) (hobj : cellB.vm.isStatics = false) (hcls : s.vm.findClass C = some cellB.cls)
    {g : JFrame} (hg : g.method = m) (hsize : g.locals.size = c.maxLocals) {argsL rest : List Value} (hlen : ∀ sig, parseMethodDescriptor y.desc = some sig → argsL.length = sig.parameters.length)
    (hstack : g.stack = argsL.reverse ++ .ref b :: rest) (hW : 2 * g.monitorRoom + (rest.map fun v => v.category).sum ≤ W9) (hdg : decode c.code g.pc = .ok (.invokevirtual index, 3))
    (hpre : ∀ vm₁, s.WarmedH vm₁ → Pre ⟨T.setVm vm₁, locs, cells, slots⟩ (Value.ref b :: argsL).toArray) :
    (∃ (v : Option Value) (vm₁ : Vm) (B : Pt), s.WarmedH vm₁ ∧ Stand p l e R s m args below meth c B.U B.locs B.cells B.slots ∧ Post ⟨T.setVm vm₁, locs, cells, slots⟩ (Value.ref b :: argsL).toArray v B ∧
      ∀ target, Steps p.tables e below (B.U.setTop { g with pc := g.pc + 3, stack := v.toList ++ rest }) target → Steps p.tables e below (T.setTop g) target) ∨
    (∃ (q : Addr) (vm₁ : Vm) (B : Pt), s.WarmedH vm₁ ∧ Stand p l e R s m args below meth c B.U B.locs B.cells B.slots ∧ PostX ⟨T.setVm vm₁, locs, cells, slots⟩ (Value.ref b :: argsL).toArray q B ∧
      Steps p.tables e below (T.setTop g) ((B.U.setTop { g with stack := rest }).pushFrame (.throwing q))) := by
  obtain ⟨mk, methM, hnamed, hmethM, hstM, habM⟩ := Cond.instanceMethod_spec hinst
  obtain ⟨methM', cM, hmethM', -, -, -, -, -, -, hsigM⟩ := Cond.code_spec hnamed hcode
  cases hmethM.symm.trans hmethM'
  obtain ⟨c2, r2, m2, q1, q2, q3, q4, kP, hkP, hkPi⟩ := Cond.selects_spec hsel
  cases hcls.symm.trans q1
  cases (State.methodFound?_of_named hnamed hy).symm.trans q2
  cases hnamed.symm.trans q3
  have hselP : selectMethod e.platform s.vm cellB.cls mk = .method mk := by rw [Launch.admits_selectMethod X.admits]; exact q4
  obtain ⟨vm₁, X₁, hstep₁⟩ := X.invokevirtual hexec hown hlink hnamed hmethM hstM hkP hkPi hy (a := b) (cell := cellB) hcell
    (fun z h => by rw [h] at hobj; cases hobj) hselP hmethM habM hkP hkPi (g := g) hg (argsL := argsL) (rest := rest) (hlen _ hsigM) hstack hdg
  rcases hK m meth c ⟨T.setVm vm₁, locs, cells, slots⟩ { g with stack := rest } (.invokevirtual index) mk (Value.ref b :: argsL).toArray X₁ hg hsize hdg hW (X₁.named hnamed) (hpre vm₁ X₁.warmed) with ⟨v, B, X', hpost, hsteps⟩ | ⟨q, B, X', hpost, hsteps⟩
  · exact Or.inl ⟨v, vm₁, B, X₁.warmed, X', hpost, fun target h => hstep₁ _ fun acts => by rw [doInvoke_state]; exact hsteps.trans h⟩
  · exact Or.inr ⟨q, vm₁, B, X₁.warmed, X', hpost, hstep₁ _ fun acts => by rw [doInvoke_state]; exact hsteps⟩
theorem vx_callS (X : Stand p l e R s m args below meth c T locs cells slots) (hexec : p.tables.exec = Jvm.exec) {own : String} {index : Nat} {y : MethodName} {bytes : ByteArray} {maxL : Nat} {ret : Option FieldType}
    (hown : s.vm.findClass own = some m.cls) (hlink : (Cond.methodLink own index y).before args s = true) (hstat : (Cond.static y).before args s = true) (hinit : (Cond.initialized y.cls).before args s = true)
    (hcode : (Cond.code y bytes maxL ret).before args s = true) (hy : y.cls ≠ "java/lang/invoke/MethodHandle" ∧ y.cls ≠ "java/lang/invoke/VarHandle")
    {W9 : Nat} {Pre : Pt → Array Value → Prop} {Post : Pt → Array Value → Option Value → Pt → Prop} {PostX : Pt → Array Value → Addr → Pt → Prop} (hK : vx_Back l R p e below s args y 3 W9 Pre Post PostX)
    {g : JFrame} (hg : g.method = m) (hsize : g.locals.size = c.maxLocals) {argsL rest : List Value} (hlen : ∀ sig, parseMethodDescriptor y.desc = some sig → argsL.length = sig.parameters.length)
    (hstack : g.stack = argsL.reverse ++ rest) (hW : 2 * g.monitorRoom + (rest.map fun v => v.category).sum ≤ W9) (hdg : decode c.code g.pc = .ok (.invokestatic index, 3))
    (hpre : ∀ vm₁, s.WarmedH vm₁ → Pre ⟨T.setVm vm₁, locs, cells, slots⟩ argsL.toArray) :
    (∃ (v : Option Value) (vm₁ : Vm) (B : Pt), s.WarmedH vm₁ ∧ Stand p l e R s m args below meth c B.U B.locs B.cells B.slots ∧ Post ⟨T.setVm vm₁, locs, cells, slots⟩ argsL.toArray v B ∧
      ∀ target, Steps p.tables e below (B.U.setTop { g with pc := g.pc + 3, stack := v.toList ++ rest }) target → Steps p.tables e below (T.setTop g) target) ∨
    (∃ (q : Addr) (vm₁ : Vm) (B : Pt), s.WarmedH vm₁ ∧ Stand p l e R s m args below meth c B.U B.locs B.cells B.slots ∧ PostX ⟨T.setVm vm₁, locs, cells, slots⟩ argsL.toArray q B ∧
      Steps p.tables e below (T.setTop g) ((B.U.setTop { g with stack := rest }).pushFrame (.throwing q))) := by
  obtain ⟨mk, hnamed⟩ := Cond.code_named hcode
  obtain ⟨methM, cM, hmethM, -, -, -, -, -, -, hsigM⟩ := Cond.code_spec hnamed hcode
  have hstatic : methM.isStatic = true := Cond.static_spec hnamed hmethM hstat
  obtain ⟨kP, hkP, -⟩ := className_of_methodNamed hnamed
  have hinitP : kP.init = .initialized := Cond.initialized_spec (findClass_of_methodNamed hnamed) hkP hinit
  obtain ⟨vm₁, X₁, hstep₁⟩ := X.invokestatic hexec hown hlink hnamed hmethM hstatic hkP hinitP hy (g := g) hg (argsL := argsL) (rest := rest) (hlen _ hsigM) hstack hdg
  rcases hK m meth c ⟨T.setVm vm₁, locs, cells, slots⟩ { g with stack := rest } (.invokestatic index) mk argsL.toArray X₁ hg hsize hdg hW (X₁.named hnamed) (hpre vm₁ X₁.warmed) with ⟨v, B, X', hpost, hsteps⟩ | ⟨q, B, X', hpost, hsteps⟩
  · exact Or.inl ⟨v, vm₁, B, X₁.warmed, X', hpost, fun target h => hstep₁ _ fun acts => by rw [doInvoke_state]; exact hsteps.trans h⟩
  · exact Or.inr ⟨q, vm₁, B, X₁.warmed, X', hpost, hstep₁ _ fun acts => by rw [doInvoke_state]; exact hsteps⟩
end Calls
theorem vx_cls {s : State} {T : State} {vm₁ : Vm} {E : String} {k : ClassId} (hW : s.WarmedH vm₁) (h : (T.setVm vm₁).vm.findClass E = some k) : s.vm.findClass E = some k := by
  have h1 : vm₁.findClass E = some k := h
  rw [hW.alike.findClass] at h1
  exact h1
/-- the method's frame g, with q thrown over it -/
def vx_W (p : Program) (l : Launch) (e : Env) (R : Room) (s : State) (m : MethodId) (args : Array Value) (below : List Frame) (meth : Method) (c : Code) (H : Heap) (locs : List Loc) (cells slots : Nat) (Q : State → Prop) (g : JFrame) (q : Addr) : Prop :=
  ∀ T : State, T.heap = H → Stand p l e R s m args below meth c T locs cells slots → ∃ t, Steps p.tables e below ((T.setTop g).pushFrame (.throwing q)) t ∧ Q t
def vx_Run (p : Program) (l : Launch) (e : Env) (R : Room) (s : State) (m : MethodId) (args : Array Value) (below : List Frame) (meth : Method) (c : Code) (H : Heap) (locs : List Loc) (cells slots mc ms : Nat) (g : JFrame) (rest : List Value) (Qa : State → Outcome → State → Prop) (XC : String → State → State → Prop) (free : Addr → Prop) : Prop :=
  ∀ T : State, T.heap = H → Stand p l e R s m args below meth c T locs cells slots →
    (∃ (v : Option Value) (st₀ t T' : State) (L : List Loc), st₀.heap = H ∧ Stand p l e R s m args below meth c T' (locs ++ L) (cells + mc) (slots + ms) ∧ (∀ q ∈ L, free q.base) ∧ T'.heap = t.heap ∧ T'.vm = t.vm ∧ Qa st₀ (.returned v) t ∧
      Goes p e below T g T' { g with pc := g.pc + 3, stack := v.toList ++ rest }) ∨
    (∃ (q : Addr) (st₀ t T' : State) (L : List Loc) (E : String) (ce : Cell), st₀.heap = H ∧ Stand p l e R s m args below meth c T' (locs ++ L) (cells + mc) (slots + ms) ∧ (∀ z ∈ L, free z.base) ∧ T'.heap = t.heap ∧ T'.vm = t.vm ∧ XC E st₀ t ∧ t.heap[q]? = some ce ∧ ce.vm = .none ∧ s.vm.findClass E = some ce.cls ∧
      Steps p.tables e below (T.setTop g) ((T'.setTop { g with stack := rest }).pushFrame (.throwing q)))
def vx_X {S : Type} (px : S → Prop) (B : String → S → State → Prop) (A : Nat → Prop) : String → State → State → Prop := fun E st t => ∃ u : S, px u ∧ B E u t ∧ va_F A st t
section Runs
variable {p : Program} {l : Launch} {e : Env} {R : Room} {s : State} {m : MethodId} {args : Array Value} {below : List Frame} {meth : Method} {c : Code} {H : Heap} {locs : List Loc} {cells slots : Nat}
variable {y : MethodName} {bytes cc : ByteArray} {maxL nL mc ms n index : Nat} {ret : Option FieldType} {ws : List Cond} {rm : Room} {Pc : Array Value → State → Prop} {Qc : Array Value → State → Outcome → State → Prop} {XC : String → State → State → Prop} {free : Addr → Prop} {Ts : List Cond} {own C : String} {b : Addr} {As rest : List Value} {g : JFrame}
theorem vx_callBack (cb : CallB R s args own index y bytes maxL ret ws rm mc ms n) (hM : vx_Met l y ws rm Pc Qc XC mc ms free) (hbl : FrameBlind Pc) : vx_Back l R p e below s args y 3 8 (PreOf R mc ms Pc) (PostOf Qc mc ms free) (vx_Post XC mc ms free) := by
  obtain ⟨hrc, hrs, hfr, hlo, hws, hcw, -, hini, -⟩ := cb
  exact vx_back (bytes := bytes) (maxL := maxL) (ret := ret) hM hbl hrc hrs hfr hlo hws hcw (fun a' U hW => word_at hW (Or.inl (by first | rfl | simp [Cond.onTables, Cond.keeps, Cond.steady])) hini)
theorem vx_runV (S : CallFix p m c cc nL s args Ts own) (hM : vx_Met l y ws rm Pc Qc XC mc ms free) (cw : CallW R s args own C index y bytes maxL ret ws rm mc ms n) (hp : PreV s H C b Pc As)
    (hg : g.method = m) (hn : As.length = n) (hsize : g.locals.size = nL) (hstack : g.stack = As.reverse ++ .ref b :: rest) (hW : 2 * g.monitorRoom + (rest.map fun v => v.category).sum ≤ 8) (hdg : decode cc g.pc = .ok (.invokevirtual index, 3)) (hf : cells + mc ≤ R.cells ∧ slots + ms ≤ R.slots) :
    vx_Run p l e R s m args below meth c H locs cells slots mc ms g rest (Qc (Value.ref b :: As).toArray) XC free := by
  have hK : vx_Back l R p e below s args y 3 8 (PreOf R mc ms Pc) (PostOf Qc mc ms free) (vx_Post XC mc ms free) := vx_callBack cw.1 hM hp.1
  obtain ⟨⟨-, -, -, -, -, -, hcode, -, hy, hlen, hl⟩, hin, hse⟩ := cw
  obtain ⟨hx, hb, hml, ho, -⟩ := S
  obtain ⟨-, ⟨cellB, hcB, hoB, hclB⟩, hPc⟩ := hp
  intro T hT X
  rcases vx_callV X hx (C := C) (bytes := bytes) (maxL := maxL) (ret := ret) ho hl hin hse hcode hy hK (by rw [hT]; exact hcB) hoB hclB hg (hsize.trans hml.symm) (argsL := As) (rest := rest) (fun sig h => hn.trans (hlen sig h)) hstack hW (by rw [hb]; exact hdg)
    (fun vm₁ hW₁ => ⟨hf.1, hf.2, hPc (T.setVm vm₁) hT hW₁⟩) with ⟨v, vm₁, ⟨U', l2, c2, s2⟩, hW₁, X', ⟨g', mk, t, L, e1, e2, hq, h1, hL, h2, h3⟩, st⟩ | ⟨q, vm₁, ⟨U', l2, c2, s2⟩, hW₁, X', ⟨g', mk, t, L, E, ce, e1, e2, hq, hce, hcv, hcl, h1, hL, h2, h3⟩, st⟩
  · dsimp only [Pt.U, Pt.locs, Pt.cells, Pt.slots] at X' e1 e2 h1 h2 h3 st
    subst h1; subst h2; subst h3
    exact Or.inl ⟨v, (T.setVm vm₁).calling g' mk (Value.ref b :: As).toArray, t, U', L, hT, X', hL, e1, e2, hq, st⟩
  · dsimp only [Pt.U, Pt.locs, Pt.cells, Pt.slots] at X' e1 e2 h1 h2 h3 st hcl
    subst h1; subst h2; subst h3
    exact Or.inr ⟨q, (T.setVm vm₁).calling g' mk (Value.ref b :: As).toArray, t, U', L, E, ce, hT, X', hL, e1, e2, hq, hce, hcv, vx_cls hW₁ hcl, st⟩
theorem vx_runS (S : CallFix p m c cc nL s args Ts own) (hM : vx_Met l y ws rm Pc Qc XC mc ms free) (cw : CallB R s args own index y bytes maxL ret ws rm mc ms n ∧ (Cond.static y).before args s = true) (hp : PreS s H Pc As)
    (hg : g.method = m) (hn : As.length = n) (hsize : g.locals.size = nL) (hstack : g.stack = As.reverse ++ rest) (hW : 2 * g.monitorRoom + (rest.map fun v => v.category).sum ≤ 8) (hdg : decode cc g.pc = .ok (.invokestatic index, 3)) (hf : cells + mc ≤ R.cells ∧ slots + ms ≤ R.slots) :
    vx_Run p l e R s m args below meth c H locs cells slots mc ms g rest (Qc As.toArray) XC free := by
  have hK : vx_Back l R p e below s args y 3 8 (PreOf R mc ms Pc) (PostOf Qc mc ms free) (vx_Post XC mc ms free) := vx_callBack cw.1 hM hp.1
  obtain ⟨⟨-, -, -, -, -, -, hcode, hini, hy, hlen, hl⟩, hstt⟩ := cw
  obtain ⟨hx, hb, hml, ho, -⟩ := S
  intro T hT X
  rcases vx_callS X hx (bytes := bytes) (maxL := maxL) (ret := ret) ho hl hstt hini hcode hy hK hg (hsize.trans hml.symm) (argsL := As) (rest := rest) (fun sig h => hn.trans (hlen sig h)) hstack hW (by rw [hb]; exact hdg)
    (fun vm₁ hW₁ => ⟨hf.1, hf.2, hp.2 (T.setVm vm₁) hT hW₁⟩) with ⟨v, vm₁, ⟨U', l2, c2, s2⟩, hW₁, X', ⟨g', mk, t, L, e1, e2, hq, h1, hL, h2, h3⟩, st⟩ | ⟨q, vm₁, ⟨U', l2, c2, s2⟩, hW₁, X', ⟨g', mk, t, L, E, ce, e1, e2, hq, hce, hcv, hcl, h1, hL, h2, h3⟩, st⟩
  · dsimp only [Pt.U, Pt.locs, Pt.cells, Pt.slots] at X' e1 e2 h1 h2 h3 st
    subst h1; subst h2; subst h3
    exact Or.inl ⟨v, (T.setVm vm₁).calling g' mk As.toArray, t, U', L, hT, X', hL, e1, e2, hq, st⟩
  · dsimp only [Pt.U, Pt.locs, Pt.cells, Pt.slots] at X' e1 e2 h1 h2 h3 st hcl
    subst h1; subst h2; subst h3
    exact Or.inr ⟨q, (T.setVm vm₁).calling g' mk As.toArray, t, U', L, E, ce, hT, X', hL, e1, e2, hq, hce, hcv, vx_cls hW₁ hcl, st⟩
end Runs
section Rows
variable {p : Program} {l : Launch} {e : Env} {R : Room} {s : State} {m : MethodId} {args : Array Value} {below : List Frame} {meth : Method} {c : Code} {H : Heap} {locs : List Loc} {cells slots : Nat} {Q : State → Prop}
variable {mc ms : Nat} {free : Addr → Prop} {A0 A1 : Nat → Prop} {H0 : Heap} {a : Array Value} {pc : Nat} {ls : Array Slot} {st0 rest : List Value}
theorem vx_keep {st₀ t T' : State} {L : List Loc} (h0 : st₀.heap = H) (e1 : T'.heap = t.heap) (hS : va_S A0 H0 H locs) (hA : ∀ q, q < H.size → A1 q → A0 q) (hf : ∀ q, free q → A0 q) (hL : ∀ q ∈ L, free q.base) (hF : va_F A1 st₀ t) :
    H.size ≤ T'.heap.size ∧ (∀ q : Nat, q < H.size → ¬ A1 q → T'.heap[q]? = H[q]?) ∧ va_S A0 H0 T'.heap (locs ++ L) := by
  obtain ⟨hz, hk⟩ := hF
  rw [h0] at hz hk
  exact ⟨by rw [e1]; exact hz, fun q h1 h2 => by rw [e1]; exact hk q h1 h2,
    ⟨Nat.le_trans hS.1 (by rw [e1]; exact hz), fun q h1 h2 => by rw [e1, hk q (Nat.lt_of_lt_of_le h1 hS.1) (fun z => h2 (hA q (Nat.lt_of_lt_of_le h1 hS.1) z))]; exact hS.2.1 q h1 h2, fun q hq => by
      rcases List.mem_append.mp hq with h | h
      · exact hS.2.2 q h
      · exact hf _ (hL q h)⟩⟩
theorem vx_calli {S SX : Type} {post : Int32 → S → Prop} {px : SX → Prop} {B : S → State → Prop} {BX : String → SX → State → Prop} {AX : Nat → Prop} (hr : vx_Run p l e R s m args below meth c H locs cells slots mc ms (F0 m pc ls st0) rest (va_Qi post B A1 a) (vx_X px BX AX) free) (hS : va_S A0 H0 H locs) (hA : ∀ q, q < H.size → A1 q → A0 q) (hf : ∀ q, free q → A0 q) (hAX : ∀ q, q < H.size → AX q → A0 q)
    (kx : ∀ (E : String) (ce : Cell) (q9 : Addr) (u : SX) (t : State) (H1 : Heap) (locs1 : List Loc), t.heap = H1 → s.vm.Alike t.vm → px u → BX E u t → H.size ≤ H1.size → (∀ q : Nat, q < H.size → ¬ AX q → H1[q]? = H[q]?) → va_S A0 H0 H1 locs1 → H1[q9]? = some ce → ce.vm = .none → s.vm.findClass E = some ce.cls → vx_W p l e R s m args below meth c H1 locs1 (cells + mc) (slots + ms) Q (F0 m pc ls rest) q9)
    (kk : ∀ (r : Int32) (u : S) (t : State) (H1 : Heap) (locs1 : List Loc), t.heap = H1 → s.vm.Alike t.vm → post r u → B u t → H.size ≤ H1.size → (∀ q : Nat, q < H.size → ¬ A1 q → H1[q]? = H[q]?) → va_S A0 H0 H1 locs1 → W p l e R s m args below meth c H1 locs1 (cells + mc) (slots + ms) Q (F0 m (pc + 3) ls (.int r :: rest))) : W p l e R s m args below meth c H locs cells slots Q (F0 m pc ls st0) := by
  intro T hT X
  rcases hr T hT X with ⟨v, st₀, t, T', L, h0, X', hL, e1, e2, ⟨⟨r, u, hv, hp, hb⟩, hF⟩, st⟩ | ⟨q, st₀, t, T', L, E, ce, h0, X', hL, e1, e2, ⟨u, hp, hb, hF⟩, hce, hcv, hcl, st⟩
  · cases hv
    obtain ⟨k1, k2, k3⟩ := vx_keep h0 e1 hS hA hf hL hF
    obtain ⟨t2, a1, b1⟩ := kk r u t T'.heap (locs ++ L) e1.symm (by rw [← e2]; exact X'.warmed.alike) hp hb k1 k2 k3 T' rfl X'
    exact ⟨t2, st t2 a1, b1⟩
  · obtain ⟨k1, k2, k3⟩ := vx_keep h0 e1 hS hAX hf hL hF
    obtain ⟨t2, a1, b1⟩ := kx E ce q u t T'.heap (locs ++ L) e1.symm (by rw [← e2]; exact X'.warmed.alike) hp hb k1 k2 k3 (by rw [e1]; exact hce) hcv hcl T' rfl X'
    exact ⟨t2, st.trans a1, b1⟩
theorem vx_calll {S SX : Type} {post : Int64 → S → Prop} {px : SX → Prop} {B : S → State → Prop} {BX : String → SX → State → Prop} {AX : Nat → Prop} (hr : vx_Run p l e R s m args below meth c H locs cells slots mc ms (F0 m pc ls st0) rest (va_Ql post B A1 a) (vx_X px BX AX) free) (hS : va_S A0 H0 H locs) (hA : ∀ q, q < H.size → A1 q → A0 q) (hf : ∀ q, free q → A0 q) (hAX : ∀ q, q < H.size → AX q → A0 q)
    (kx : ∀ (E : String) (ce : Cell) (q9 : Addr) (u : SX) (t : State) (H1 : Heap) (locs1 : List Loc), t.heap = H1 → s.vm.Alike t.vm → px u → BX E u t → H.size ≤ H1.size → (∀ q : Nat, q < H.size → ¬ AX q → H1[q]? = H[q]?) → va_S A0 H0 H1 locs1 → H1[q9]? = some ce → ce.vm = .none → s.vm.findClass E = some ce.cls → vx_W p l e R s m args below meth c H1 locs1 (cells + mc) (slots + ms) Q (F0 m pc ls rest) q9)
    (kk : ∀ (r : Int64) (u : S) (t : State) (H1 : Heap) (locs1 : List Loc), t.heap = H1 → s.vm.Alike t.vm → post r u → B u t → H.size ≤ H1.size → (∀ q : Nat, q < H.size → ¬ A1 q → H1[q]? = H[q]?) → va_S A0 H0 H1 locs1 → W p l e R s m args below meth c H1 locs1 (cells + mc) (slots + ms) Q (F0 m (pc + 3) ls (.long r :: rest))) : W p l e R s m args below meth c H locs cells slots Q (F0 m pc ls st0) := by
  intro T hT X
  rcases hr T hT X with ⟨v, st₀, t, T', L, h0, X', hL, e1, e2, ⟨⟨r, u, hv, hp, hb⟩, hF⟩, st⟩ | ⟨q, st₀, t, T', L, E, ce, h0, X', hL, e1, e2, ⟨u, hp, hb, hF⟩, hce, hcv, hcl, st⟩
  · cases hv
    obtain ⟨k1, k2, k3⟩ := vx_keep h0 e1 hS hA hf hL hF
    obtain ⟨t2, a1, b1⟩ := kk r u t T'.heap (locs ++ L) e1.symm (by rw [← e2]; exact X'.warmed.alike) hp hb k1 k2 k3 T' rfl X'
    exact ⟨t2, st t2 a1, b1⟩
  · obtain ⟨k1, k2, k3⟩ := vx_keep h0 e1 hS hAX hf hL hF
    obtain ⟨t2, a1, b1⟩ := kx E ce q u t T'.heap (locs ++ L) e1.symm (by rw [← e2]; exact X'.warmed.alike) hp hb k1 k2 k3 (by rw [e1]; exact hce) hcv hcl T' rfl X'
    exact ⟨t2, st.trans a1, b1⟩
theorem vx_callf {S SX : Type} {post : UInt32 → S → Prop} {px : SX → Prop} {B : S → State → Prop} {BX : String → SX → State → Prop} {AX : Nat → Prop} (hr : vx_Run p l e R s m args below meth c H locs cells slots mc ms (F0 m pc ls st0) rest (va_Qf post B A1 a) (vx_X px BX AX) free) (hS : va_S A0 H0 H locs) (hA : ∀ q, q < H.size → A1 q → A0 q) (hf : ∀ q, free q → A0 q) (hAX : ∀ q, q < H.size → AX q → A0 q)
    (kx : ∀ (E : String) (ce : Cell) (q9 : Addr) (u : SX) (t : State) (H1 : Heap) (locs1 : List Loc), t.heap = H1 → s.vm.Alike t.vm → px u → BX E u t → H.size ≤ H1.size → (∀ q : Nat, q < H.size → ¬ AX q → H1[q]? = H[q]?) → va_S A0 H0 H1 locs1 → H1[q9]? = some ce → ce.vm = .none → s.vm.findClass E = some ce.cls → vx_W p l e R s m args below meth c H1 locs1 (cells + mc) (slots + ms) Q (F0 m pc ls rest) q9)
    (kk : ∀ (r : UInt32) (u : S) (t : State) (H1 : Heap) (locs1 : List Loc), t.heap = H1 → s.vm.Alike t.vm → post r u → B u t → H.size ≤ H1.size → (∀ q : Nat, q < H.size → ¬ A1 q → H1[q]? = H[q]?) → va_S A0 H0 H1 locs1 → W p l e R s m args below meth c H1 locs1 (cells + mc) (slots + ms) Q (F0 m (pc + 3) ls (.float r :: rest))) : W p l e R s m args below meth c H locs cells slots Q (F0 m pc ls st0) := by
  intro T hT X
  rcases hr T hT X with ⟨v, st₀, t, T', L, h0, X', hL, e1, e2, ⟨⟨r, u, hv, hp, hb⟩, hF⟩, st⟩ | ⟨q, st₀, t, T', L, E, ce, h0, X', hL, e1, e2, ⟨u, hp, hb, hF⟩, hce, hcv, hcl, st⟩
  · cases hv
    obtain ⟨k1, k2, k3⟩ := vx_keep h0 e1 hS hA hf hL hF
    obtain ⟨t2, a1, b1⟩ := kk r u t T'.heap (locs ++ L) e1.symm (by rw [← e2]; exact X'.warmed.alike) hp hb k1 k2 k3 T' rfl X'
    exact ⟨t2, st t2 a1, b1⟩
  · obtain ⟨k1, k2, k3⟩ := vx_keep h0 e1 hS hAX hf hL hF
    obtain ⟨t2, a1, b1⟩ := kx E ce q u t T'.heap (locs ++ L) e1.symm (by rw [← e2]; exact X'.warmed.alike) hp hb k1 k2 k3 (by rw [e1]; exact hce) hcv hcl T' rfl X'
    exact ⟨t2, st.trans a1, b1⟩
theorem vx_calld {S SX : Type} {post : UInt64 → S → Prop} {px : SX → Prop} {B : S → State → Prop} {BX : String → SX → State → Prop} {AX : Nat → Prop} (hr : vx_Run p l e R s m args below meth c H locs cells slots mc ms (F0 m pc ls st0) rest (va_Qd post B A1 a) (vx_X px BX AX) free) (hS : va_S A0 H0 H locs) (hA : ∀ q, q < H.size → A1 q → A0 q) (hf : ∀ q, free q → A0 q) (hAX : ∀ q, q < H.size → AX q → A0 q)
    (kx : ∀ (E : String) (ce : Cell) (q9 : Addr) (u : SX) (t : State) (H1 : Heap) (locs1 : List Loc), t.heap = H1 → s.vm.Alike t.vm → px u → BX E u t → H.size ≤ H1.size → (∀ q : Nat, q < H.size → ¬ AX q → H1[q]? = H[q]?) → va_S A0 H0 H1 locs1 → H1[q9]? = some ce → ce.vm = .none → s.vm.findClass E = some ce.cls → vx_W p l e R s m args below meth c H1 locs1 (cells + mc) (slots + ms) Q (F0 m pc ls rest) q9)
    (kk : ∀ (r : UInt64) (u : S) (t : State) (H1 : Heap) (locs1 : List Loc), t.heap = H1 → s.vm.Alike t.vm → post r u → B u t → H.size ≤ H1.size → (∀ q : Nat, q < H.size → ¬ A1 q → H1[q]? = H[q]?) → va_S A0 H0 H1 locs1 → W p l e R s m args below meth c H1 locs1 (cells + mc) (slots + ms) Q (F0 m (pc + 3) ls (.double r :: rest))) : W p l e R s m args below meth c H locs cells slots Q (F0 m pc ls st0) := by
  intro T hT X
  rcases hr T hT X with ⟨v, st₀, t, T', L, h0, X', hL, e1, e2, ⟨⟨r, u, hv, hp, hb⟩, hF⟩, st⟩ | ⟨q, st₀, t, T', L, E, ce, h0, X', hL, e1, e2, ⟨u, hp, hb, hF⟩, hce, hcv, hcl, st⟩
  · cases hv
    obtain ⟨k1, k2, k3⟩ := vx_keep h0 e1 hS hA hf hL hF
    obtain ⟨t2, a1, b1⟩ := kk r u t T'.heap (locs ++ L) e1.symm (by rw [← e2]; exact X'.warmed.alike) hp hb k1 k2 k3 T' rfl X'
    exact ⟨t2, st t2 a1, b1⟩
  · obtain ⟨k1, k2, k3⟩ := vx_keep h0 e1 hS hAX hf hL hF
    obtain ⟨t2, a1, b1⟩ := kx E ce q u t T'.heap (locs ++ L) e1.symm (by rw [← e2]; exact X'.warmed.alike) hp hb k1 k2 k3 (by rw [e1]; exact hce) hcv hcl T' rfl X'
    exact ⟨t2, st.trans a1, b1⟩
theorem vx_callv {S SX : Type} {post : S → Prop} {px : SX → Prop} {B : S → State → Prop} {BX : String → SX → State → Prop} {AX : Nat → Prop} (hr : vx_Run p l e R s m args below meth c H locs cells slots mc ms (F0 m pc ls st0) rest (va_Qv post B A1 a) (vx_X px BX AX) free) (hS : va_S A0 H0 H locs) (hA : ∀ q, q < H.size → A1 q → A0 q) (hf : ∀ q, free q → A0 q) (hAX : ∀ q, q < H.size → AX q → A0 q)
    (kx : ∀ (E : String) (ce : Cell) (q9 : Addr) (u : SX) (t : State) (H1 : Heap) (locs1 : List Loc), t.heap = H1 → s.vm.Alike t.vm → px u → BX E u t → H.size ≤ H1.size → (∀ q : Nat, q < H.size → ¬ AX q → H1[q]? = H[q]?) → va_S A0 H0 H1 locs1 → H1[q9]? = some ce → ce.vm = .none → s.vm.findClass E = some ce.cls → vx_W p l e R s m args below meth c H1 locs1 (cells + mc) (slots + ms) Q (F0 m pc ls rest) q9)
    (kk : ∀ (u : S) (t : State) (H1 : Heap) (locs1 : List Loc), t.heap = H1 → s.vm.Alike t.vm → post u → B u t → H.size ≤ H1.size → (∀ q : Nat, q < H.size → ¬ A1 q → H1[q]? = H[q]?) → va_S A0 H0 H1 locs1 → W p l e R s m args below meth c H1 locs1 (cells + mc) (slots + ms) Q (F0 m (pc + 3) ls (rest))) : W p l e R s m args below meth c H locs cells slots Q (F0 m pc ls st0) := by
  intro T hT X
  rcases hr T hT X with ⟨v, st₀, t, T', L, h0, X', hL, e1, e2, ⟨⟨u, hv, hp, hb⟩, hF⟩, st⟩ | ⟨q, st₀, t, T', L, E, ce, h0, X', hL, e1, e2, ⟨u, hp, hb, hF⟩, hce, hcv, hcl, st⟩
  · cases hv
    obtain ⟨k1, k2, k3⟩ := vx_keep h0 e1 hS hA hf hL hF
    obtain ⟨t2, a1, b1⟩ := kk u t T'.heap (locs ++ L) e1.symm (by rw [← e2]; exact X'.warmed.alike) hp hb k1 k2 k3 T' rfl X'
    exact ⟨t2, st t2 a1, b1⟩
  · obtain ⟨k1, k2, k3⟩ := vx_keep h0 e1 hS hAX hf hL hF
    obtain ⟨t2, a1, b1⟩ := kx E ce q u t T'.heap (locs ++ L) e1.symm (by rw [← e2]; exact X'.warmed.alike) hp hb k1 k2 k3 (by rw [e1]; exact hce) hcv hcl T' rfl X'
    exact ⟨t2, st.trans a1, b1⟩
/-- caught by the row x of this method's table; the rows ahead don't take it -/
theorem vx_catch {own name : String} {E : String} {ce : Cell} {q : Addr} (hown : s.vm.findClass own = some m.cls) (pre : List ExceptionTableEntry) (x : ExceptionTableEntry) (suf : List ExceptionTableEntry) (hsplit : c.exceptionTable.toList = pre ++ x :: suf)
    (hpass : ∀ z ∈ pre, covers z pc = false ∨ (z.catchType ≠ 0 ∧ ∃ nm : String, (Cond.classLink own z.catchType nm).before args s = true ∧ va_Nc E nm s)) (hx : covers x pc = true) (h0 : x.catchType ≠ 0)
    (hlink : (Cond.classLink own x.catchType name).before args s = true) (hcast : (Cond.castable E name).before args s = true) (hcell : H[q]? = some ce) (hv : ce.vm = .none) (hcl : s.vm.findClass E = some ce.cls)
    (kk : W p l e R s m args below meth c H locs cells slots Q (F0 m x.handlerPc ls [.ref q])) : vx_W p l e R s m args below meth c H locs cells slots Q (F0 m pc ls rest) q := by
  intro T hT X
  have hpl : e.platform.magicAccessors = ({} : Platform).magicAccessors := by rw [X.admits.platform]
  obtain ⟨c3, c4, hc3, hc4, hasg⟩ := Cond.castable_spec hcast
  cases Option.some.inj (hc3.symm.trans hcl)
  obtain ⟨c5, hc5, hcl5⟩ := Cond.classLink_spec hown hlink e.platform hpl
  cases Option.some.inj (hc4.symm.trans hc5)
  obtain ⟨vm', X', st⟩ := X.thenCaughtThrough q (g := F0 m pc ls rest) rfl (Steps.refl _) (by rw [hT]; exact hcell) (by rw [hv]; rfl) (by obtain ⟨k9, h9, -⟩ := Vm.findClass_spec hcl; exact ⟨k9, h9⟩) pre x suf hsplit
    (fun z hz => by
      rcases hpass z hz with h | ⟨hz0, nm, hl1, hn1⟩
      · exact Or.inl h
      · obtain ⟨c6, hc6, hcl6⟩ := Cond.classLink_spec hown hl1 e.platform hpl
        obtain ⟨a8, b8, h1, h2, h3⟩ := hn1
        cases Option.some.inj (h1.symm.trans hcl)
        cases Option.some.inj (h2.symm.trans hc6)
        exact Or.inr ⟨hz0, _, hcl6, h3⟩) hx (Or.inr ⟨h0, c4, hcl5, hasg⟩)
  obtain ⟨t, a1, b1⟩ := kk (T.setVm vm') hT X'
  exact ⟨t, st.trans a1, b1⟩
end Rows
section Ends
variable {p : Program} {l : Launch} {e : Env} {R : Room} {s : State} {m : MethodId} {args : Array Value} {below : List Frame} {meth : Method} {c : Code} {H : Heap} {locs : List Loc} {cells slots : Nat} {Q : State → Prop}
variable {mc ms : Nat} {free : Addr → Prop} {A0 A1 : Nat → Prop} {H0 : Heap} {a : Array Value} {ls : Array Slot} {st0 rest : List Value}
variable {Qc : Array Value → State → Outcome → State → Prop} {XC : String → State → State → Prop}
/-- what a body that may throw owes at its end -/
def vx_MQ (below : List Frame) (Qc : Array Value → State → Outcome → State → Prop) (XC : String → State → State → Prop) (a : Array Value) (s : State) (mc ms : Nat) (free : Addr → Prop) : State → Prop := fun t =>
  ∃ o, t.status = .running ∧ Ended t below o ∧ vx_Q Qc XC mc ms free a s o t
theorem vx_ret {g : JFrame} {mc ms : Nat} (k : W p l e R s m args below meth c H locs cells slots (MQ below Qc args s mc ms free) g) : W p l e R s m args below meth c H locs cells slots (vx_MQ below Qc XC args s mc ms free) g := by
  intro T hT X
  obtain ⟨t, a1, o, b1, b2, b3, b4⟩ := k T hT X
  exact ⟨t, a1, o, b1, b2, Or.inl ⟨b3, b4⟩⟩
/-- not caught here: it goes on to the caller -/
theorem vx_widen {g : JFrame} {q : Addr} {k n : Nat} (h1 : cells ≤ k) (h2 : slots ≤ n) (kk : vx_W p l e R s m args below meth c H locs k n Q g q) : vx_W p l e R s m args below meth c H locs cells slots Q g q := fun T hT X => kk T hT (stand_widen X h1 h2)
theorem vx_out {pc : Nat} {E : String} {ce : Cell} {q : Addr} {mc ms : Nat} (hout : ∀ x ∈ c.exceptionTable.toList, covers x pc = false) (hlocks : meth.locks = false) (hcell : H[q]? = some ce) (hv : ce.vm = .none) (hcl : s.vm.findClass E = some ce.cls)
    (hx : ∀ t : State, t.heap = H → s.vm.Alike t.vm → XC E s t) (hf : ∀ z ∈ locs, free z.base) (hc : cells ≤ mc) (hs : slots ≤ ms) :
    vx_W p l e R s m args below meth c H locs cells slots (vx_MQ below Qc XC args s mc ms free) (F0 m pc ls rest) q := by
  intro T hT X
  obtain ⟨st1, hrun, hend, hW, hsm⟩ := X.leaveThrown q (g := F0 m pc ls rest) rfl rfl rfl hout hlocks
  have hcell9 : (T.setFrames (.throwing q :: below)).heap[q]? = some ce := by
    show T.heap[q]? = some ce
    rw [hT]; exact hcell
  exact ⟨_, st1, .threw q, hrun, hend, Or.inr ⟨q, rfl, E, ce, locs, hx _ hT hW.alike, hcell9, hv, hcl, hW, hsm.mono hc hs, hf⟩⟩
theorem vx_frame {U : State} {k n : Nat} (h : s.sameButNew ({ U with vm := s.vm } : State) locs k n) : s.heap.size ≤ U.heap.size ∧ ∀ q : Nat, q < s.heap.size → (∀ z ∈ locs, z.base ≠ q) → U.heap[q]? = s.heap[q]? := by
  obtain ⟨-, h2, -, -, -, h6⟩ := h
  refine ⟨h2, fun q hq hz => ?_⟩
  obtain ⟨c9, e1, e2, e3, e4⟩ := h6 q _ (Array.getElem?_eq_getElem hq)
  have hs : c9.slots = (s.heap[q]).slots := Array.ext_getElem? fun i => e4 i fun hm => hz _ hm rfl
  have h9 : c9 = s.heap[q] := by
    rw [hs] at e2
    exact e2
  have e5 : U.heap[q]? = some c9 := e1
  rw [e5, h9, Array.getElem?_eq_getElem hq]
/-- the words of a throw but the four that speak of the heap -/
def vx_no (w : Cond) : Bool := decide (w ≠ .isRef (.static Bundle.tN "UNASSIGNED_STACK" Bundle.steD)) && decide (w ≠ .isRef (.static Bundle.tN "SUPPRESSED_SENTINEL" Bundle.listD)) && decide (w ≠ .laysStatic Bundle.tN "UNASSIGNED_STACK" Bundle.steD) && decide (w ≠ .laysStatic Bundle.tN "SUPPRESSED_SENTINEL" Bundle.listD)
def vx_at0 (own : String) (ic : Nat) (X : String) (names : List String) : List Cond := (Bundle.ownAtoms0 own ic X names).filter vx_no
def vx_atS (own : String) (ic : Nat) (X : String) (names : List String) : List Cond := (Bundle.ownAtoms own ic X names).filter vx_no
/-- a word that the tables alone decide, or a good one -/
def vx_ot (w : Cond) : Bool := w.onTables || goodWord w
theorem vx_ot_at {args a' : Array Value} {s U : State} {w : Cond} (hW : s.WarmedH U.vm) (hvm : s.vm = U.vm) (hg : vx_ot w = true) (h : w.before args s = true) : w.before a' U = true := by
  simp only [vx_ot, Bool.or_eq_true] at hg
  rcases hg with hg | hg
  · exact va_tabs hg hvm h
  · exact word_at hW (good_of_word hg) h
/-- a list's words: the good ones out of the method's own list, the others by premises of their own -/
theorem vx_hat {args : Array Value} {s : State} {L B : List Cond} (h1 : ∀ w ∈ L.filter goodWord, w.before args s = true) (h2 : ∀ w ∈ L.filter (fun w => !goodWord w), w ∈ B) (h3 : ∀ w ∈ B, w.before args s = true) : ∀ w ∈ L, w.before args s = true := by
  intro w hw
  by_cases g : goodWord w = true
  · exact h1 w (List.mem_filter.mpr ⟨hw, g⟩)
  · refine h3 w (h2 w (List.mem_filter.mpr ⟨hw, ?_⟩))
    show (!goodWord w) = true
    cases hgw : goodWord w
    · rfl
    · exact absurd hgw g
theorem vx_c {args : Array Value} {s : State} {w : Cond} {B : List Cond} (h : w.before args s = true) (t : ∀ w ∈ B, w.before args s = true) : ∀ w' ∈ w :: B, w'.before args s = true := fun w' h' => (List.mem_cons.mp h').elim (fun e => by rw [e]; exact h) (t w')
theorem vx_n {args : Array Value} {s : State} : ∀ w ∈ ([] : List Cond), w.before args s = true := fun _ h => nomatch h
theorem vx_own {args : Array Value} {s : State} {L : List Cond} (h1 : ∀ w ∈ L.filter vx_no, w.before args s = true)
    (hU : (Cond.isRef (.static Bundle.tN "UNASSIGNED_STACK" Bundle.steD)).before args s = true) (hN : (Cond.isRef (.static Bundle.tN "SUPPRESSED_SENTINEL" Bundle.listD)).before args s = true)
    (lU : (Cond.laysStatic Bundle.tN "UNASSIGNED_STACK" Bundle.steD).before args s = true) (lN : (Cond.laysStatic Bundle.tN "SUPPRESSED_SENTINEL" Bundle.listD).before args s = true) : ∀ w ∈ L, w.before args s = true := by
  intro w hw
  by_cases e1 : w = .isRef (.static Bundle.tN "UNASSIGNED_STACK" Bundle.steD)
  · rw [e1]; exact hU
  · by_cases e2 : w = .isRef (.static Bundle.tN "SUPPRESSED_SENTINEL" Bundle.listD)
    · rw [e2]; exact hN
    · by_cases e3 : w = .laysStatic Bundle.tN "UNASSIGNED_STACK" Bundle.steD
      · rw [e3]; exact lU
      · by_cases e4 : w = .laysStatic Bundle.tN "SUPPRESSED_SENTINEL" Bundle.listD
        · rw [e4]; exact lN
        · exact h1 w (List.mem_filter.mpr ⟨hw, by unfold vx_no; rw [decide_eq_true e1, decide_eq_true e2, decide_eq_true e3, decide_eq_true e4]; rfl⟩)
/-- where a static field lies, its class's statics cell in H -/
def vx_L (C n d : String) (A : Nat → Prop) (U : State) (H : Heap) : Prop := ∃ (c : ClassId) (k : Class) (i : Nat) (f : Field) (a : Nat) (cell : Cell), U.vm.findClass C = some c ∧ U.fieldFound? C n d = some (c, k, i, f) ∧ f.isStatic = true ∧ k.statics = some a ∧ H[a]? = some cell ∧ cell.vm.isStatics = true ∧ cell.cls = c ∧ f.slot < cell.slots.size ∧ k.staticTypes[f.slot]? = some f.type ∧ ¬ A a
theorem vx_L.moved {C n d : String} {A : Nat → Prop} {u U : State} {H : Heap} (hvm : u.vm.Alike U.vm) (h : vx_L C n d A u H) : vx_L C n d A U H := by
  obtain ⟨c, k, i, f, a, cell, h1, h2, h3, h4, h5, h6, h7, h8, h9, h10⟩ := h
  obtain ⟨k', hi', he⟩ := State.fieldFound?_setVm hvm h2
  exact ⟨c, k', i, f, a, cell, by rw [hvm.findClass]; exact h1, hi', h3, by rw [he]; exact h4, h5, h6, h7, h8, by rw [he]; exact h9, h10⟩
theorem vx_L.kept {C n d : String} {A : Nat → Prop} {U : State} {H H1 : Heap} (h : vx_L C n d A U H) (hq : ∀ a : Nat, a < H.size → ¬ A a → H1[a]? = H[a]?) : vx_L C n d A U H1 := by
  obtain ⟨c, k, i, f, a, cell, h1, h2, h3, h4, h5, h6, h7, h8, h9, h10⟩ := h
  exact ⟨c, k, i, f, a, cell, h1, h2, h3, h4, by rw [hq a (Array.getElem?_eq_some_iff.mp h5).1 h10]; exact h5, h6, h7, h8, h9, h10⟩
theorem vx_L.narrow {C n d : String} {A B : Nat → Prop} {U : State} {H : Heap} (h : vx_L C n d A U H) (hAB : ∀ q, B q → A q) : vx_L C n d B U H := by
  obtain ⟨c, k, i, f, a, cell, h1, h2, h3, h4, h5, h6, h7, h8, h9, h10⟩ := h
  exact ⟨c, k, i, f, a, cell, h1, h2, h3, h4, h5, h6, h7, h8, h9, fun z => h10 (hAB _ z)⟩
theorem vx_L.word {C n d : String} {A : Nat → Prop} {s : State} {args : Array Value} (h : vx_L C n d A s s.heap) : (Cond.laysStatic C n d).before args s = true := by
  obtain ⟨c, k, i, f, a, cell, h1, h2, h3, h4, h5, h6, h7, h8, h9, -⟩ := h
  show (Cond.laysStatic C n d).holds args s none s [] = true
  exact Cond.laysStatic_of h1 h2 h3 h4 h5 h6 h7 h8 h9
/-- .. and what it holds: null or some reference -/
def vx_Zq (C n d : String) (A : Nat → Prop) (U : State) (H : Heap) : Prop := va_Zq C n d A U H ∧ vx_L C n d A U H
theorem vx_Zq.moved {C n d : String} {A : Nat → Prop} {u U : State} {H : Heap} (hvm : u.vm.Alike U.vm) (h : vx_Zq C n d A u H) : vx_Zq C n d A U H := ⟨va_Zq.moved hvm h.1, vx_L.moved hvm h.2⟩
theorem vx_Zq.kept {C n d : String} {A : Nat → Prop} {U : State} {H H1 : Heap} (h : vx_Zq C n d A U H) (hq : ∀ a : Nat, a < H.size → ¬ A a → H1[a]? = H[a]?) : vx_Zq C n d A U H1 := ⟨va_Zq.kept h.1 hq, vx_L.kept h.2 hq⟩
theorem vx_Zq.narrow {C n d : String} {A B : Nat → Prop} {U : State} {H : Heap} (h : vx_Zq C n d A U H) (hAB : ∀ q, B q → A q) : vx_Zq C n d B U H := ⟨va_Zq.narrow h.1 hAB, vx_L.narrow h.2 hAB⟩
theorem vx_Zqof {args : Array Value} {s : State} {C n d : String} {A : Nat → Prop} (hl : (Cond.laysStatic C n d).before args s = true) (hini : (Cond.initialized C).before args s = true) (h : (Cond.isRef (.static C n d)).before args s = true) (hA : ∀ a : Nat, a < s.heap.size → ¬ A a) : vx_Zq C n d A s s.heap := by
  refine ⟨va_Zqof hl hini h hA, ?_⟩
  obtain ⟨c, k, i, f, a, cell, h1, h2, h3, h4, h5, h6, h7, h8, h9⟩ := Cond.laysStatic_spec hl
  exact ⟨c, k, i, f, a, cell, h1, h2, h3, h4, h5, h6, h7, h8, h9, hA a (Array.getElem?_eq_some_iff.mp h5).1⟩
theorem vx_isRef {C n d : String} {v : Value} {A : Nat → Prop} {s : State} {args : Array Value} (h : va_Z C n d v A s s.heap) (hv : v.isRef = true) : (Cond.isRef (.static C n d)).before args s = true := by
  obtain ⟨cf, kf, fi, f, a, cell, h1, h2, h3, h4, h5, h6, h7, -⟩ := h
  have he : (Term.static C n d).eval args s none [] s = some v := by
    simp [Term.eval, State.fieldNamed?, h1, h2, h4, h5, h6, h7]
  simp only [Cond.before, Cond.holds, Cond.value, he]
  cases v <;> simp_all [Value.isRef]
theorem vx_isRefq {C n d : String} {A : Nat → Prop} {s : State} {args : Array Value} (h : va_Zq C n d A s s.heap) : (Cond.isRef (.static C n d)).before args s = true := by
  rcases h with h | ⟨t, h⟩
  · exact vx_isRef h rfl
  · exact vx_isRef h rfl
/-- the same frame, seen from here: as if the method were called anew in this heap -/
theorem vx_rebase {T : State} (X : Stand p l e R s m args below meth c T locs cells slots) {R' : Room} (hf : R'.frames ≤ R.frames) (hl : R'.locals ≤ R.locals) (hc : cells + R'.cells ≤ R.cells) (hs : slots + R'.slots ≤ R.slots) :
    Stand p l e R' ((T.setVm s.vm).setFrames (.invoking m args :: below)) m args below meth c T [] 0 0 := by
  have htop : (T.setVm s.vm).topJava?.isSome := X.here.top
  have hF : ((T.setVm s.vm).setFrames (.invoking m args :: below)).frames = .invoking m args :: below := State.frames_setFrames _ (State.cur_lt_of_top htop)
  obtain ⟨g₀, hg0⟩ := Option.isSome_iff_exists.mp htop
  obtain ⟨r, hr⟩ := State.topJava?_eq_some.mp hg0
  have hl9 : e.platform.stackLimits (T.setVm s.vm).me = e.platform.stackLimits s.me := X.limits
  have hb9 : (T.setVm s.vm).me.stackBytes = s.me.stackBytes := X.bytes
  refine ⟨X.admits, X.cas, X.clock, hF, ?_, X.hears, X.method, X.code, X.here, X.tail, X.warmed, ?_, ?_, ?_⟩
  · have h := X.room
    have hU : ((T.setVm s.vm).setFrames (.invoking m args :: below)).localsInUse = s.localsInUse := by
      rw [State.localsInUse_invoking hF (meth := meth) (c := c) X.method X.code, State.localsInUse_invoking X.frames X.method X.code]
    simp only [State.hasRoom, Bool.and_eq_true, decide_eq_true_eq] at h ⊢
    obtain ⟨⟨⟨⟨h1, h2, h3, h4, h5, h6⟩, h7⟩, h8⟩, h9⟩ := h
    rw [X.frames, List.length_cons] at h2 h3
    have q1 := X.heapSize
    have q2 := X.used
    simp only [hF, hU, List.length_cons, State.stackLimits_setFrames, State.stackBytes_setFrames, hl9, hb9]
    refine ⟨⟨⟨⟨by omega, by omega, by omega, by omega, by omega, h6⟩, ?_⟩, ?_⟩, X.book⟩
    · show T.heap.size + R'.cells ≤ e.platform.maxCells
      omega
    · show T.slotsUsed + R'.slots ≤ e.platform.maxSlots
      omega
  · rw [State.stackLimits_setFrames]; rfl
  · rw [State.stackBytes_setFrames]; rfl
  · refine ⟨?_, Nat.le_refl _, Nat.le_refl _, ?_, ?_, fun a c9 h9 => ⟨c9, h9, rfl, rfl, fun _ _ => rfl⟩⟩
    · obtain ⟨t, ht, -⟩ := State.frames_cons hr
      show T.setVm s.vm = { ((T.setVm s.vm).setFrames (.invoking m args :: below)).setFrames (T.setVm s.vm).frames with heap := T.heap, slotsUsed := T.slotsUsed }
      rw [State.setFrames_setFrames, State.setFrames_self ht]
      rfl
    · show T.slotsUsed = T.slotsUsed + ((T.heap.toList.drop T.heap.size).map (·.slots.size)).sum
      rw [List.drop_eq_nil_of_le (Nat.le_of_eq Array.length_toList)]
      rfl
    · show ((T.heap.toList.drop T.heap.size).map (·.slots.size)).sum ≤ 0
      rw [List.drop_eq_nil_of_le (Nat.le_of_eq Array.length_toList)]
      exact Nat.le_refl _
/-- 'throw new E()': new; dup; invokespecial; athrow -/
theorem vx_throw0 {cc : ByteArray} {pc : Nat} (hexec : p.tables.exec = Jvm.exec) (hb : c.code = cc) (hl : l.stackTraces = false) {own cls : String} {names : List String} {ik ic mc ms : Nat} {A : Nat → Prop}
    (hown : s.vm.findClass own = some m.cls) (hcls : Bundle.fit cls = true) (hnames : ∀ n ∈ names, Bundle.fit n = true)
    (hk : (Cond.classLink own ik cls).before args s = true) (hini : (Cond.initialized cls).before args s = true) (hat : ∀ w ∈ vx_at0 own ic cls names, w.before args s = true)
    (hgood : ∀ w ∈ Cond.classLink own ik cls :: Cond.initialized cls :: vx_at0 own ic cls names, vx_ot w = true)
    (hU : vx_Zq Bundle.tN "UNASSIGNED_STACK" Bundle.steD A s s.heap) (hN : vx_Zq Bundle.tN "SUPPRESSED_SENTINEL" Bundle.listD A s s.heap) (hS : va_S A s.heap H locs) (hsize : ls.size = c.maxLocals)
    (d0 : decode cc pc = .ok (.new ik, 3)) (d3 : decode cc (pc + 3) = .ok (.dup, 1)) (d4 : decode cc (pc + 4) = .ok (.invokespecial ic, 3)) (d7 : decode cc (pc + 7) = .ok (.athrow, 1))
    (hout : ∀ x ∈ c.exceptionTable.toList, covers x (pc + 7) = false)
    (hRframes : names.length + 3 < R.frames) (hRlocals : (rest.map fun v => v.category).sum + (13 * (names.length + 1) + 42) ≤ R.locals) (hRcells : cells + 1 ≤ R.cells) (hRslots : slots + 6 ≤ R.slots) (hlocks : meth.locks = false)
    (hx : ∀ t : State, s.vm.Alike t.vm → H.size ≤ t.heap.size → (∀ q : Nat, q < H.size → t.heap[q]? = H[q]?) → XC cls s t)
    (hf : ∀ z ∈ locs, free z.base) (hc : cells + 1 ≤ mc) (hs : slots + 6 ≤ ms) :
    W p l e R s m args below meth c H locs cells slots (vx_MQ below Qc XC args s mc ms free) (F0 m pc ls rest) := by
  intro T hT X
  have htr : e.platform.stackTraces = false := (show e.platform.stackTraces = l.stackTraces by rw [X.admits.platform]).trans hl
  have Y := vx_rebase X (R' := { frames := R.frames, locals := R.locals, cells := 1, slots := 6 }) (Nat.le_refl _) (Nat.le_refl _) hRcells hRslots
  obtain ⟨s', hA⟩ : ∃ z, z = (T.setVm s.vm).setFrames (.invoking m args :: below) := ⟨_, rfl⟩
  rw [← hA] at Y
  have hvm : s'.vm = s.vm := by rw [hA]; rfl
  have hhp : s'.heap = H := by rw [hA]; exact hT
  have hW0 : s.WarmedH s'.vm := by rw [hvm]; exact State.WarmedH.refl s
  have hat' : ∀ w ∈ vx_at0 own ic cls names, w.before args s' = true := fun w hw => vx_ot_at hW0 hvm.symm (hgood w (List.mem_cons_of_mem _ (List.mem_cons_of_mem _ hw))) (hat w hw)
  have hk' : (Cond.classLink own ik cls).before args s' = true := vx_ot_at hW0 hvm.symm (hgood _ List.mem_cons_self) hk
  have hini' : (Cond.initialized cls).before args s' = true := vx_ot_at hW0 hvm.symm (hgood _ (List.mem_cons_of_mem _ List.mem_cons_self)) hini
  have hU' : vx_Zq Bundle.tN "UNASSIGNED_STACK" Bundle.steD A s' s'.heap := by rw [hhp]; exact vx_Zq.moved hW0.alike (hU.kept hS.2.1)
  have hN' : vx_Zq Bundle.tN "SUPPRESSED_SENTINEL" Bundle.listD A s' s'.heap := by rw [hhp]; exact vx_Zq.moved hW0.alike (hN.kept hS.2.1)
  have h : ∀ w ∈ Bundle.ownAtoms0 own ic cls names, w.before args s' = true := vx_own hat' (vx_isRefq hU'.1) (vx_isRefq hN'.1) hU'.2.word hN'.2.word
  have hown' : s'.vm.findClass own = some m.cls := by rw [hvm]; exact hown
  have hins : (Cond.instantiable cls 6).before args s' = true := h _ (by simp [Bundle.ownAtoms0])
  obtain ⟨vm₁, cX, kX, hfX, hkX, -, -, X₁, st1⟩ := Y.newCold hexec (own := own) (C := cls) (index := ik) (n := 6) hown' hk' hins hini'
    (g := F0 m pc ls rest) rfl (by rw [hb]; exact d0) (Nat.le_refl _) (Nat.le_refl _)
  generalize hT1 : (T.setVm vm₁).pushCell { cls := cX, slots := kX.instanceTypes.map defaultValue, vm := .none } = T1 at X₁ st1
  have hcat : (Value.ref T.heap.size).category = 1 := rfl
  have hcellA : T1.heap[T.heap.size]? = some (freshCell cX kX) := by rw [← hT1]; exact State.heap_pushCell_size _ _
  have d3' : decode c.code (pc + 3) = .ok (.dup, 1) := by rw [hb]; exact d3
  obtain ⟨U, hsteps, hrun, hend, hW, hsame, ce, hce, hO⟩ := X₁.ctorThrow0 hexec htr (own := own) (cls := cls) (names := names) (ic := ic) hown' hcls hnames h (fun x hx => nomatch hx) hfX hkX hcellA (by rw [hhp, hT]; exact Nat.le_refl _)
    (g := { method := m, pc := pc + 4, locals := ls, stack := .ref T.heap.size :: .ref T.heap.size :: rest, locked := none }) rfl hsize rfl rfl (rest := rest) rfl
    (by rw [hb]; exact d4) (by rw [hb]; exact d7) hout hRframes (by simp only [List.map_cons, List.sum_cons, hcat]; omega) hlocks
  obtain ⟨f1, f2⟩ := vx_frame hsame
  rw [hhp] at f1 f2
  have hWs : s.WarmedH U.vm := State.WarmedH.trans hW0 hW
  have hcl : s.vm.findClass cls = some ce.cls := by
    have h9 := hO.cls
    rw [hvm] at h9
    exact h9
  have hall : s.sameButNew ({ U with vm := s.vm } : State) locs mc ms := by
    subst hA
    obtain ⟨e1, e2⟩ := hsame
    rw [State.setFrames_setFrames] at e1
    have h2 : (T.setVm s.vm).sameButNew ({ U with vm := s.vm } : State) [] (0 + 1) (0 + 6) := ⟨e1, e2⟩
    have h3 := X.same.trans h2
    rw [List.append_nil] at h3
    exact h3.mono hc hs
  refine ⟨U, ?_, .threw T.heap.size, hrun, hend, Or.inr ⟨T.heap.size, rfl, cls, ce, locs, hx U hWs.alike f1 (fun q hq => f2 q hq (fun z hz => nomatch hz)), hce, hO.vm, hcl, hWs, hall, hf⟩⟩
  refine st1 _ ?_
  show Steps p.tables e below (T1.setTop { method := m, pc := pc + 3, locals := ls, stack := .ref T.heap.size :: rest, locked := none }) _
  jvm_step X₁.here [X₁.here.top, hexec, d3', Value.category]
  exact hsteps
/-- 'throw new E("text")': new; dup; ldc; invokespecial; athrow -/
theorem vx_throwS {cc : ByteArray} {pc : Nat} (hexec : p.tables.exec = Jvm.exec) (hb : c.code = cc) (hl : l.stackTraces = false) {own cls text : String} {names : List String} {ik is ic mc ms sa : Nat} {A : Nat → Prop}
    (hown : s.vm.findClass own = some m.cls) (hcls : Bundle.fit cls = true) (hnames : ∀ n ∈ names, Bundle.fit n = true)
    (hk : (Cond.classLink own ik cls).before args s = true) (hini : (Cond.initialized cls).before args s = true) (hstr : vk_R own is text sa s) (hat : ∀ w ∈ vx_atS own ic cls names, w.before args s = true)
    (hgood : ∀ w ∈ Cond.classLink own ik cls :: Cond.initialized cls :: vx_atS own ic cls names, vx_ot w = true)
    (hU : vx_Zq Bundle.tN "UNASSIGNED_STACK" Bundle.steD A s s.heap) (hN : vx_Zq Bundle.tN "SUPPRESSED_SENTINEL" Bundle.listD A s s.heap) (hS : va_S A s.heap H locs) (hsize : ls.size = c.maxLocals)
    (d0 : decode cc pc = .ok (.new ik, 3)) (d3 : decode cc (pc + 3) = .ok (.dup, 1)) (d4 : decode cc (pc + 4) = .ok (.ldc is, 2)) (d6 : decode cc (pc + 6) = .ok (.invokespecial ic, 3)) (d9 : decode cc (pc + 9) = .ok (.athrow, 1))
    (hout : ∀ x ∈ c.exceptionTable.toList, covers x (pc + 9) = false)
    (hRframes : names.length + 3 < R.frames) (hRlocals : (rest.map fun v => v.category).sum + (13 * (names.length + 1) + 43) ≤ R.locals) (hRcells : cells + 1 ≤ R.cells) (hRslots : slots + 6 ≤ R.slots) (hlocks : meth.locks = false)
    (hx : ∀ t : State, s.vm.Alike t.vm → H.size ≤ t.heap.size → (∀ q : Nat, q < H.size → t.heap[q]? = H[q]?) → XC cls s t)
    (hf : ∀ z ∈ locs, free z.base) (hc : cells + 1 ≤ mc) (hs : slots + 6 ≤ ms) :
    W p l e R s m args below meth c H locs cells slots (vx_MQ below Qc XC args s mc ms free) (F0 m pc ls rest) := by
  intro T hT X
  have htr : e.platform.stackTraces = false := (show e.platform.stackTraces = l.stackTraces by rw [X.admits.platform]).trans hl
  have Y := vx_rebase X (R' := { frames := R.frames, locals := R.locals, cells := 1, slots := 6 }) (Nat.le_refl _) (Nat.le_refl _) hRcells hRslots
  obtain ⟨s', hA⟩ : ∃ z, z = (T.setVm s.vm).setFrames (.invoking m args :: below) := ⟨_, rfl⟩
  rw [← hA] at Y
  have hvm : s'.vm = s.vm := by rw [hA]; rfl
  have hhp : s'.heap = H := by rw [hA]; exact hT
  have hW0 : s.WarmedH s'.vm := by rw [hvm]; exact State.WarmedH.refl s
  have hat' : ∀ w ∈ vx_atS own ic cls names, w.before args s' = true := fun w hw => vx_ot_at hW0 hvm.symm (hgood w (List.mem_cons_of_mem _ (List.mem_cons_of_mem _ hw))) (hat w hw)
  have hk' : (Cond.classLink own ik cls).before args s' = true := vx_ot_at hW0 hvm.symm (hgood _ List.mem_cons_self) hk
  have hini' : (Cond.initialized cls).before args s' = true := vx_ot_at hW0 hvm.symm (hgood _ (List.mem_cons_of_mem _ List.mem_cons_self)) hini
  have hU' : vx_Zq Bundle.tN "UNASSIGNED_STACK" Bundle.steD A s' s'.heap := by rw [hhp]; exact vx_Zq.moved hW0.alike (hU.kept hS.2.1)
  have hN' : vx_Zq Bundle.tN "SUPPRESSED_SENTINEL" Bundle.listD A s' s'.heap := by rw [hhp]; exact vx_Zq.moved hW0.alike (hN.kept hS.2.1)
  have h : ∀ w ∈ Bundle.ownAtoms own ic cls names, w.before args s' = true := vx_own hat' (vx_isRefq hU'.1) (vx_isRefq hN'.1) hU'.2.word hN'.2.word
  have hown' : s'.vm.findClass own = some m.cls := by rw [hvm]; exact hown
  have hins : (Cond.instantiable cls 6).before args s' = true := h _ (by simp [Bundle.ownAtoms])
  obtain ⟨vm₁, cX, kX, hfX, hkX, -, -, X₁, st1⟩ := Y.newCold hexec (own := own) (C := cls) (index := ik) (n := 6) hown' hk' hins hini'
    (g := F0 m pc ls rest) rfl (by rw [hb]; exact d0) (Nat.le_refl _) (Nat.le_refl _)
  generalize hT1 : (T.setVm vm₁).pushCell { cls := cX, slots := kX.instanceTypes.map defaultValue, vm := .none } = T1 at X₁ st1
  have hcat : (Value.ref T.heap.size).category = 1 := rfl
  have hcellA : T1.heap[T.heap.size]? = some (freshCell cX kX) := by rw [← hT1]; exact State.heap_pushCell_size _ _
  have d3' : decode c.code (pc + 3) = .ok (.dup, 1) := by rw [hb]; exact d3
  have d4' : decode c.code (pc + 4) = .ok (.ldc is, 2) := by rw [hb]; exact d4
  have hstr' : vk_R own is text sa s' := vk_R.warm hW0 hstr
  obtain ⟨U, hsteps, hrun, hend, hW, hsame, ce, hce, hO⟩ := X₁.ctorThrowS hexec htr (own := own) (cls := cls) (names := names) (ic := ic) hown' hcls hnames h (fun x hx => nomatch hx) hfX hkX hcellA (by rw [hhp, hT]; exact Nat.le_refl _) (msg := .ref sa) rfl
    (g := { method := m, pc := pc + 6, locals := ls, stack := .ref sa :: .ref T.heap.size :: .ref T.heap.size :: rest, locked := none }) rfl hsize rfl rfl (rest := rest) rfl
    (by rw [hb]; exact d6) (by rw [hb]; exact d9) hout hRframes (by simp only [List.map_cons, List.sum_cons, hcat]; omega) hlocks
  obtain ⟨f1, f2⟩ := vx_frame hsame
  rw [hhp] at f1 f2
  have hWs : s.WarmedH U.vm := State.WarmedH.trans hW0 hW
  have hcl : s.vm.findClass cls = some ce.cls := by
    have h9 := hO.cls
    rw [hvm] at h9
    exact h9
  have hall : s.sameButNew ({ U with vm := s.vm } : State) locs mc ms := by
    subst hA
    obtain ⟨e1, e2⟩ := hsame
    rw [State.setFrames_setFrames] at e1
    have h2 : (T.setVm s.vm).sameButNew ({ U with vm := s.vm } : State) [] (0 + 1) (0 + 6) := ⟨e1, e2⟩
    have h3 := X.same.trans h2
    rw [List.append_nil] at h3
    exact h3.mono hc hs
  refine ⟨U, ?_, .threw T.heap.size, hrun, hend, Or.inr ⟨T.heap.size, rfl, cls, ce, locs, hx U hWs.alike f1 (fun q hq => f2 q hq (fun z hz => nomatch hz)), hce, hO.vm, hcl, hWs, hall, hf⟩⟩
  refine st1 _ ?_
  show Steps p.tables e below (T1.setTop { method := m, pc := pc + 3, locals := ls, stack := .ref T.heap.size :: rest, locked := none }) _
  jvm_step X₁.here [X₁.here.top, hexec, d3', Value.category]
  exact X₁.ldcString hexec (own := own) (text := text) (index := is) (a := sa) hown' hstr'.1 hstr'.2
    (g := { method := m, pc := pc + 4, locals := ls, stack := .ref T.heap.size :: .ref T.heap.size :: rest, locked := none }) rfl d4' _ hsteps
/-- 'throw new E("text")', the text by a wide index -/
theorem vx_throwSW {cc : ByteArray} {pc : Nat} (hexec : p.tables.exec = Jvm.exec) (hb : c.code = cc) (hl : l.stackTraces = false) {own cls text : String} {names : List String} {ik is ic mc ms sa : Nat} {A : Nat → Prop}
    (hown : s.vm.findClass own = some m.cls) (hcls : Bundle.fit cls = true) (hnames : ∀ n ∈ names, Bundle.fit n = true)
    (hk : (Cond.classLink own ik cls).before args s = true) (hini : (Cond.initialized cls).before args s = true) (hstr : vk_R own is text sa s) (hat : ∀ w ∈ vx_atS own ic cls names, w.before args s = true)
    (hgood : ∀ w ∈ Cond.classLink own ik cls :: Cond.initialized cls :: vx_atS own ic cls names, vx_ot w = true)
    (hU : vx_Zq Bundle.tN "UNASSIGNED_STACK" Bundle.steD A s s.heap) (hN : vx_Zq Bundle.tN "SUPPRESSED_SENTINEL" Bundle.listD A s s.heap) (hS : va_S A s.heap H locs) (hsize : ls.size = c.maxLocals)
    (d0 : decode cc pc = .ok (.new ik, 3)) (d3 : decode cc (pc + 3) = .ok (.dup, 1)) (d4 : decode cc (pc + 4) = .ok (.ldc_w is, 3)) (d7 : decode cc (pc + 7) = .ok (.invokespecial ic, 3)) (d10 : decode cc (pc + 10) = .ok (.athrow, 1))
    (hout : ∀ x ∈ c.exceptionTable.toList, covers x (pc + 10) = false)
    (hRframes : names.length + 3 < R.frames) (hRlocals : (rest.map fun v => v.category).sum + (13 * (names.length + 1) + 43) ≤ R.locals) (hRcells : cells + 1 ≤ R.cells) (hRslots : slots + 6 ≤ R.slots) (hlocks : meth.locks = false)
    (hx : ∀ t : State, s.vm.Alike t.vm → H.size ≤ t.heap.size → (∀ q : Nat, q < H.size → t.heap[q]? = H[q]?) → XC cls s t)
    (hf : ∀ z ∈ locs, free z.base) (hc : cells + 1 ≤ mc) (hs : slots + 6 ≤ ms) :
    W p l e R s m args below meth c H locs cells slots (vx_MQ below Qc XC args s mc ms free) (F0 m pc ls rest) := by
  intro T hT X
  have htr : e.platform.stackTraces = false := (show e.platform.stackTraces = l.stackTraces by rw [X.admits.platform]).trans hl
  have Y := vx_rebase X (R' := { frames := R.frames, locals := R.locals, cells := 1, slots := 6 }) (Nat.le_refl _) (Nat.le_refl _) hRcells hRslots
  obtain ⟨s', hA⟩ : ∃ z, z = (T.setVm s.vm).setFrames (.invoking m args :: below) := ⟨_, rfl⟩
  rw [← hA] at Y
  have hvm : s'.vm = s.vm := by rw [hA]; rfl
  have hhp : s'.heap = H := by rw [hA]; exact hT
  have hW0 : s.WarmedH s'.vm := by rw [hvm]; exact State.WarmedH.refl s
  have hat' : ∀ w ∈ vx_atS own ic cls names, w.before args s' = true := fun w hw => vx_ot_at hW0 hvm.symm (hgood w (List.mem_cons_of_mem _ (List.mem_cons_of_mem _ hw))) (hat w hw)
  have hk' : (Cond.classLink own ik cls).before args s' = true := vx_ot_at hW0 hvm.symm (hgood _ List.mem_cons_self) hk
  have hini' : (Cond.initialized cls).before args s' = true := vx_ot_at hW0 hvm.symm (hgood _ (List.mem_cons_of_mem _ List.mem_cons_self)) hini
  have hU' : vx_Zq Bundle.tN "UNASSIGNED_STACK" Bundle.steD A s' s'.heap := by rw [hhp]; exact vx_Zq.moved hW0.alike (hU.kept hS.2.1)
  have hN' : vx_Zq Bundle.tN "SUPPRESSED_SENTINEL" Bundle.listD A s' s'.heap := by rw [hhp]; exact vx_Zq.moved hW0.alike (hN.kept hS.2.1)
  have h : ∀ w ∈ Bundle.ownAtoms own ic cls names, w.before args s' = true := vx_own hat' (vx_isRefq hU'.1) (vx_isRefq hN'.1) hU'.2.word hN'.2.word
  have hown' : s'.vm.findClass own = some m.cls := by rw [hvm]; exact hown
  have hins : (Cond.instantiable cls 6).before args s' = true := h _ (by simp [Bundle.ownAtoms])
  obtain ⟨vm₁, cX, kX, hfX, hkX, -, -, X₁, st1⟩ := Y.newCold hexec (own := own) (C := cls) (index := ik) (n := 6) hown' hk' hins hini'
    (g := F0 m pc ls rest) rfl (by rw [hb]; exact d0) (Nat.le_refl _) (Nat.le_refl _)
  generalize hT1 : (T.setVm vm₁).pushCell { cls := cX, slots := kX.instanceTypes.map defaultValue, vm := .none } = T1 at X₁ st1
  have hcat : (Value.ref T.heap.size).category = 1 := rfl
  have hcellA : T1.heap[T.heap.size]? = some (freshCell cX kX) := by rw [← hT1]; exact State.heap_pushCell_size _ _
  have d3' : decode c.code (pc + 3) = .ok (.dup, 1) := by rw [hb]; exact d3
  have d4' : decode c.code (pc + 4) = .ok (.ldc_w is, 3) := by rw [hb]; exact d4
  have hstr' : vk_R own is text sa s' := vk_R.warm hW0 hstr
  obtain ⟨U, hsteps, hrun, hend, hW, hsame, ce, hce, hO⟩ := X₁.ctorThrowS hexec htr (own := own) (cls := cls) (names := names) (ic := ic) hown' hcls hnames h (fun x hx => nomatch hx) hfX hkX hcellA (by rw [hhp, hT]; exact Nat.le_refl _) (msg := .ref sa) rfl
    (g := { method := m, pc := pc + 7, locals := ls, stack := .ref sa :: .ref T.heap.size :: .ref T.heap.size :: rest, locked := none }) rfl hsize rfl rfl (rest := rest) rfl
    (by rw [hb]; exact d7) (by rw [hb]; exact d10) hout hRframes (by simp only [List.map_cons, List.sum_cons, hcat]; omega) hlocks
  obtain ⟨f1, f2⟩ := vx_frame hsame
  rw [hhp] at f1 f2
  have hWs : s.WarmedH U.vm := State.WarmedH.trans hW0 hW
  have hcl : s.vm.findClass cls = some ce.cls := by
    have h9 := hO.cls
    rw [hvm] at h9
    exact h9
  have hall : s.sameButNew ({ U with vm := s.vm } : State) locs mc ms := by
    subst hA
    obtain ⟨e1, e2⟩ := hsame
    rw [State.setFrames_setFrames] at e1
    have h2 : (T.setVm s.vm).sameButNew ({ U with vm := s.vm } : State) [] (0 + 1) (0 + 6) := ⟨e1, e2⟩
    have h3 := X.same.trans h2
    rw [List.append_nil] at h3
    exact h3.mono hc hs
  refine ⟨U, ?_, .threw T.heap.size, hrun, hend, Or.inr ⟨T.heap.size, rfl, cls, ce, locs, hx U hWs.alike f1 (fun q hq => f2 q hq (fun z hz => nomatch hz)), hce, hO.vm, hcl, hWs, hall, hf⟩⟩
  refine st1 _ ?_
  show Steps p.tables e below (T1.setTop { method := m, pc := pc + 3, locals := ls, stack := .ref T.heap.size :: rest, locked := none }) _
  jvm_step X₁.here [X₁.here.top, hexec, d3', Value.category]
  exact X₁.ldcStringW hexec (own := own) (text := text) (index := is) (a := sa) hown' hstr'.1 hstr'.2
    (g := { method := m, pc := pc + 4, locals := ls, stack := .ref T.heap.size :: .ref T.heap.size :: rest, locked := none }) rfl d4' _ hsteps
end Ends
section Bodies
variable {l : Launch}
theorem vx_ofW {y : MethodName} {ws ws' : List Cond} {rm : Room} {Pc : Array Value → State → Prop} {Qc : Array Value → State → Outcome → State → Prop} {XC : String → State → State → Prop} {mc ms : Nat} {free : Addr → Prop} {cc : ByteArray} {maxL : Nat} {ret : Option FieldType}
    (hy : plainName y.cls = true) (hw : ws = Cond.code y cc maxL ret :: ws')
    (body : ∀ p e s m args below meth c s₁, BodyLoose p l y (headSpec ws rm) cc maxL ret e s m args below meth c s₁ → c.maxLocals = maxL → (∀ x ∈ c.exceptionTable.toList, False) → Pc args s →
      W p l e (headSpec ws rm).room s m args below meth c s.heap [] 0 0 (vx_MQ below Qc XC args s mc ms free) (entryFrame m args maxL)) : vx_Met l y ws rm Pc Qc XC mc ms free := by
  refine MetFree.of_bodyS (code := cc) (maxLocals := maxL) (ret := ret) hy ?_ ?_
  · intro args s m h hn
    obtain ⟨meth, c, h1, h2, h3, h4, h5, h6, -, -⟩ := Cond.code_spec hn (atoms_spec (ws := ws) h _ (by rw [hw]; exact List.mem_cons_self))
    exact ⟨meth, c, h1, h2, h3, h4, h5, h6⟩
  · intro p e s m args below meth c s₁ B hml hP _
    have hh0 : s₁.heap = s.heap := by rw [B.state]; rfl
    have ht : ∀ x ∈ c.exceptionTable.toList, False := by
      obtain ⟨meth9, c9, h1, h2, -, -, -, -, h7, -⟩ := Cond.code_spec B.named (atoms_spec (ws := ws) B.pre _ (by rw [hw]; exact List.mem_cons_self))
      cases Option.some.inj (h1.symm.trans B.method)
      cases Option.some.inj (h2.symm.trans (Stand.of_body B).code)
      intro x hx
      rw [Array.isEmpty_iff.mp h7] at hx
      cases hx
    obtain ⟨t, a1, o, b1, b2, b3⟩ := body p e s m args below meth c s₁ B hml ht hP s₁ hh0 (Stand.of_body B)
    exact ⟨t, o, a1, b1, b2, b3⟩
/-- the table of a body with handlers -/
theorem vx_table {p : Program} {x y : MethodName} {S : Spec} {cc bytes : ByteArray} {maxL maxL' : Nat} {ret ret' : Option FieldType} {e : Env} {s s₁ : State} {m : MethodId} {args : Array Value} {below : List Frame} {meth : Method} {c : Code} {hh : List (Nat × Nat × Nat × Nat)}
    (B : BodyLoose p l y S cc maxL ret e s m args below meth c s₁) (h : (Cond.codeWith y bytes maxL' ret' hh).before args s = true) : c.exceptionTable.toList = tableOf hh := by
  obtain ⟨m9, meth9, c9, hn9, h1, h2, -, -, h6, -⟩ := Cond.codeWith_spec h
  cases Option.some.inj (hn9.symm.trans B.named)
  cases Option.some.inj (h1.symm.trans B.method)
  cases Option.some.inj (h2.symm.trans (Stand.of_body B).code)
  rw [← h6, table_eq]
end Bodies
end VXA
/-! ===== END ===== -/
/-! ===== BEGIN a static call of a method with an exception table ===== -/
section VXS
variable {p : Program} {l : Launch} {e : Env} {R : Room} {s : State} {m : MethodId} {args : Array Value} {below : List Frame} {meth : Method} {c : Code} {T : State} {H : Heap} {locs : List Loc} {cells slots : Nat}
abbrev vx_CSW (R : Room) (s : State) (args : Array Value) (own : String) (index : Nat) (y : MethodName) (bytes : ByteArray) (maxL : Nat) (ret : Option FieldType) (hh : List (Nat × Nat × Nat × Nat)) (ws : List Cond) (rm : Room) (mc ms n : Nat) : Prop :=
  (rm.cells = mc ∧ rm.slots = ms ∧ rm.frames + 1 ≤ R.frames ∧ 8 + (maxL + 11) + rm.locals ≤ R.locals ∧ (∀ w ∈ ws, ∀ (a' : Array Value) (U : State), s.WarmedH U.vm → w.before a' U = true) ∧ Cond.codeWith y bytes maxL ret hh ∈ ws) ∧
  (Cond.codeWith y bytes maxL ret hh).before args s = true ∧ (Cond.initialized y.cls).before args s = true ∧ (y.cls ≠ "java/lang/invoke/MethodHandle" ∧ y.cls ≠ "java/lang/invoke/VarHandle") ∧
  (∀ sig, parseMethodDescriptor y.desc = some sig → n = sig.parameters.length) ∧ (Cond.methodLink own index y).before args s = true ∧ (Cond.static y).before args s = true
theorem vx_cwSW {own : String} {index maxL mc ms : Nat} {y : MethodName} {bytes : ByteArray} {ret : Option FieldType} {hh : List (Nat × Nat × Nat × Nat)} {Ts ws ws' : List Cond} {rm : Room} (n : Nat) (ht : ∀ w ∈ Ts, w.before args s = true) (hT : GoodIn Ts (va_wsS own index y ws)) (hw : ws = Cond.codeWith y bytes maxL ret hh :: ws') (hrc : rm.cells = mc) (hrs : rm.slots = ms)
    (hd : y.cls ≠ "java/lang/invoke/MethodHandle" ∧ y.cls ≠ "java/lang/invoke/VarHandle" ∧ (parseMethodDescriptor y.desc).map (fun d => d.parameters.length) = some n) (hR : rm.frames + 1 ≤ R.frames ∧ 8 + (maxL + 11) + rm.locals ≤ R.locals) :
    vx_CSW R s args own index y bytes maxL ret hh ws rm mc ms n := by
  have ok : ∀ w ∈ va_wsS own index y ws, w.before args s = true := fun w h => ht w (hT w h).1
  have hG : GoodIn Ts ws := fun w h => hT w (by unfold va_wsS; exact List.mem_append_right _ h)
  have hc : Cond.codeWith y bytes maxL ret hh ∈ ws := by rw [hw]; exact List.mem_cons_self
  refine ⟨⟨hrc, hrs, hR.1, hR.2, pay_in ht hG, hc⟩, ht _ (hG _ hc).1, ok _ (by simp [va_wsS]), ⟨hd.1, hd.2.1⟩, fun sig h => ?_, ok _ (by simp [va_wsS]), ok _ (by simp [va_wsS])⟩
  have h2 := hd.2.2
  rw [h] at h2
  exact (Option.some.inj h2).symm
theorem vx_callSW (X : Stand p l e R s m args below meth c T locs cells slots) (hexec : p.tables.exec = Jvm.exec) {own : String} {index : Nat} {y : MethodName} {bytes : ByteArray} {maxL : Nat} {ret : Option FieldType} {hh : List (Nat × Nat × Nat × Nat)}
    (hown : s.vm.findClass own = some m.cls) (hlink : (Cond.methodLink own index y).before args s = true) (hstat : (Cond.static y).before args s = true) (hinit : (Cond.initialized y.cls).before args s = true)
    (hcode : (Cond.codeWith y bytes maxL ret hh).before args s = true) (hy : y.cls ≠ "java/lang/invoke/MethodHandle" ∧ y.cls ≠ "java/lang/invoke/VarHandle")
    {W9 : Nat} {Pre : Pt → Array Value → Prop} {Post : Pt → Array Value → Option Value → Pt → Prop} (hK : Back l R p e below s args y 3 W9 Pre Post)
    {g : JFrame} (hg : g.method = m) (hsize : g.locals.size = c.maxLocals) {argsL rest : List Value} (hlen : ∀ sig, parseMethodDescriptor y.desc = some sig → argsL.length = sig.parameters.length)
    (hstack : g.stack = argsL.reverse ++ rest) (hW : 2 * g.monitorRoom + (rest.map fun v => v.category).sum ≤ W9) (hdg : decode c.code g.pc = .ok (.invokestatic index, 3))
    (hpre : ∀ vm₁, s.WarmedH vm₁ → Pre ⟨T.setVm vm₁, locs, cells, slots⟩ argsL.toArray) :
    ∃ (v : Option Value) (vm₁ : Vm) (B : Pt), s.WarmedH vm₁ ∧ Stand p l e R s m args below meth c B.U B.locs B.cells B.slots ∧ Post ⟨T.setVm vm₁, locs, cells, slots⟩ argsL.toArray v B ∧
      ∀ target, Steps p.tables e below (B.U.setTop { g with pc := g.pc + 3, stack := v.toList ++ rest }) target → Steps p.tables e below (T.setTop g) target := by
  obtain ⟨mk, methM, cM, hnamed, hmethM, -, -, -, -, -, -, hsigM⟩ := Cond.codeWith_spec hcode
  have hstatic : methM.isStatic = true := Cond.static_spec hnamed hmethM hstat
  obtain ⟨kP, hkP, -⟩ := className_of_methodNamed hnamed
  have hinitP : kP.init = .initialized := Cond.initialized_spec (findClass_of_methodNamed hnamed) hkP hinit
  obtain ⟨vm₁, X₁, hstep₁⟩ := X.invokestatic hexec hown hlink hnamed hmethM hstatic hkP hinitP hy (g := g) hg (argsL := argsL) (rest := rest) (hlen _ hsigM) hstack hdg
  obtain ⟨v, B, X', hpost, hsteps⟩ := hK m meth c ⟨T.setVm vm₁, locs, cells, slots⟩ { g with stack := rest } (.invokestatic index) mk argsL.toArray X₁ hg hsize hdg hW (X₁.named hnamed) (hpre vm₁ X₁.warmed)
  exact ⟨v, vm₁, B, X₁.warmed, X', hpost, fun target h => hstep₁ _ fun acts => by rw [doInvoke_state]; exact hsteps.trans h⟩
theorem vx_runSW {y : MethodName} {bytes cc : ByteArray} {maxL nL mc ms n index : Nat} {ret : Option FieldType} {hh : List (Nat × Nat × Nat × Nat)} {ws : List Cond} {rm : Room} {Pc : Array Value → State → Prop} {Qc : Array Value → State → Outcome → State → Prop} {free : Addr → Prop} {Ts : List Cond} {own : String} {As rest : List Value} {g : JFrame}
    (S : CallFix p m c cc nL s args Ts own) (hM : Met l y ws rm Pc Qc mc ms free) (cw : vx_CSW R s args own index y bytes maxL ret hh ws rm mc ms n) (hp : PreS s H Pc As)
    (hg : g.method = m) (hn : As.length = n) (hsize : g.locals.size = nL) (hstack : g.stack = As.reverse ++ rest) (hW : 2 * g.monitorRoom + (rest.map fun v => v.category).sum ≤ 8) (hdg : decode cc g.pc = .ok (.invokestatic index, 3)) (hf : cells + mc ≤ R.cells ∧ slots + ms ≤ R.slots) :
    va_Run p l e R s m args below meth c H locs cells slots mc ms g rest (Qc As.toArray) (free) := by
  obtain ⟨⟨hrc, hrs, hfr, hlo, hws, hcw⟩, hcode, hini, hy, hlen, hl, hstt⟩ := cw
  have hK : Back l R p e below s args y 3 8 (PreOf R mc ms Pc) (PostOf Qc mc ms free) := va_backW (hh := hh) (bytes := bytes) (maxL := maxL) (ret := ret) hM hp.1 hrc hrs hfr hlo hws hcw (fun a' U hW => word_at hW (Or.inl (by first | rfl | simp [Cond.onTables, Cond.keeps, Cond.steady])) hini)
  obtain ⟨hx, hb, hml, ho, -⟩ := S
  intro T hT X
  obtain ⟨v, vm₁, ⟨U', l2, c2, s2⟩, hW₁, X', ⟨g', mk, t, L, e1, e2, hq, h1, hL, h2, h3⟩, st⟩ := vx_callSW X hx (hh := hh) (bytes := bytes) (maxL := maxL) (ret := ret) ho hl hstt hini hcode hy hK hg (hsize.trans hml.symm) (argsL := As) (rest := rest) (fun sig h => hn.trans (hlen sig h)) hstack hW (by rw [hb]; exact hdg)
    (fun vm₁ hW₁ => ⟨hf.1, hf.2, hp.2 (T.setVm vm₁) hT hW₁⟩)
  dsimp only [Pt.U, Pt.locs, Pt.cells, Pt.slots] at X' e1 e2 h1 h2 h3 st
  subst h1; subst h2; subst h3
  exact ⟨v, (T.setVm vm₁).calling g' mk As.toArray, t, U', L, hT, X', hL, e1, e2, hq, st⟩
/-- not caught here, past rows that name other classes: it goes on to the caller -/
theorem vx_outP {p : Program} {l : Launch} {e : Env} {R : Room} {s : State} {m : MethodId} {args : Array Value} {below : List Frame} {meth : Method} {c : Code} {H : Heap} {locs : List Loc} {cells slots : Nat} {free : Addr → Prop} {ls : Array Slot} {rest : List Value} {Qc : Array Value → State → Outcome → State → Prop} {XC : String → State → State → Prop}
    {pc : Nat} {own E : String} {ce : Cell} {q : Addr} {mc ms : Nat} (hown : s.vm.findClass own = some m.cls) (hlocks : meth.locks = false)
    (hpass : ∀ z ∈ c.exceptionTable.toList, covers z pc = false ∨ (z.catchType ≠ 0 ∧ ∃ nm : String, (Cond.classLink own z.catchType nm).before args s = true ∧ va_Nc E nm s)) (hcell : H[q]? = some ce) (hv : ce.vm = .none) (hcl : s.vm.findClass E = some ce.cls)
    (hx : ∀ t : State, t.heap = H → s.vm.Alike t.vm → XC E s t) (hf : ∀ z ∈ locs, free z.base) (hc : cells ≤ mc) (hs : slots ≤ ms) :
    vx_W p l e R s m args below meth c H locs cells slots (vx_MQ below Qc XC args s mc ms free) (F0 m pc ls rest) q := by
  intro T hT X
  have hpl : e.platform.magicAccessors = ({} : Platform).magicAccessors := by rw [X.admits.platform]
  obtain ⟨vm', hW', X', st⟩ := X.outThrough hlocks q (g := F0 m pc ls rest) rfl rfl rfl (cell := ce) (by rw [hT]; exact hcell) (by rw [hv]; rfl)
    (by obtain ⟨k9, h9, -⟩ := Vm.findClass_spec hcl; exact ⟨k9, h9⟩) (fun z hz => by
      rcases hpass z hz with h | ⟨hz0, nm, hl1, hn1⟩
      · exact Or.inl h
      · obtain ⟨c6, hc6, hcl6⟩ := Cond.classLink_spec hown hl1 e.platform hpl
        obtain ⟨a8, b8, h1, h2, h3⟩ := hn1
        cases Option.some.inj (h1.symm.trans hcl)
        cases Option.some.inj (h2.symm.trans hc6)
        exact Or.inr ⟨hz0, _, hcl6, h3⟩)
  obtain ⟨g₀, hfr⟩ := X'.frames_eq
  have hcell9 : ((T.setVm vm').setFrames (.throwing q :: below)).heap[q]? = some ce := by
    show T.heap[q]? = some ce
    rw [hT]; exact hcell
  have hend : Ended ((T.setVm vm').setFrames (.throwing q :: below)) below (.threw q) := State.frames_setFrames _ (State.cur_lt_of_frames hfr)
  refine ⟨(T.setVm vm').setFrames (.throwing q :: below), ?_, .threw q, X'.here.running, hend, Or.inr ⟨q, rfl, E, ce, locs, hx _ hT (X'.ends _).1.alike, hcell9, hv, hcl, (X'.ends _).1, (X'.ends _).2.mono hc hs, hf⟩⟩
  rw [X.pushThrowing_eq]
  exact st
/-- a thing of a world lies in the heap -/
theorem vx_lt {D : va_G} {cl : List vw_C} {ws : va_W} {H1 : Heap} (h : va_P D cl ws H1) {k : Nat} {q : Nat × va_E} (hk : ws[k]? = some q) : q.1 < H1.size := (h k q hk).lt
end VXS
/-! ===== END ===== -/
/-! ===== BEGIN methods with a table of their own: called by a name, returning or throwing ===== -/
section VXH
/-! vx_backW, vx_callVX, vx_callSX, vx_callVW, vx_runVW, vx_runVX, vx_runSX, vx_ofWH follow the same proofs as their sisters above (Free/Laws.lean, Shelf42/LK1.lean); vx_outP calls Shelf42/NT130.lean (outThrough). -/
section
variable {l : Launch} {R : Room} {p : Program} {e : Env} {below : List Frame} {s : State} {sargs : Array Value} {y : MethodName} {len W9 : Nat}
theorem vx_backW {ws : List Cond} {rm : Room} {Pc : Array Value → State → Prop} {Qc : Array Value → State → Outcome → State → Prop} {XC : String → State → State → Prop} {mc ms : Nat} {free : Addr → Prop} {bytes : ByteArray} {maxL : Nat} {ret : Option FieldType} {hh : List (Nat × Nat × Nat × Nat)}
    (hM : vx_Met l y ws rm Pc Qc XC mc ms free) (hblind : FrameBlind Pc) (hrc : rm.cells = mc) (hrs : rm.slots = ms)
    (hframes : rm.frames + 1 ≤ R.frames) (hlocals : W9 + (maxL + 11) + rm.locals ≤ R.locals)
    (hws : ∀ w ∈ ws, ∀ a' U, s.WarmedH U.vm → w.before a' U = true) (hcode : Cond.codeWith y bytes maxL ret hh ∈ ws) (hinit : ∀ a' U, s.WarmedH U.vm → (Cond.initialized y.cls).before a' U = true) :
    vx_Back l R p e below s sargs y len W9 (PreOf R mc ms Pc) (PostOf Qc mc ms free) (vx_Post XC mc ms free) := by
  intro m meth c A g ig mk a X hg hsize hdg hW hn hp
  have h1 : (headSpec ws rm).pre.before a A.U = true := atoms_intro fun w hw => hws w hw _ _ X.warmed
  have h2 : (Cond.codeWith y bytes maxL ret hh).before a A.U = true := hws _ hcode _ _ X.warmed
  have h3 : (Cond.initialized y.cls).before a A.U = true := hinit _ _ X.warmed
  have h4 : A.cells + (headSpec ws rm).room.cells ≤ R.cells := by rw [show (headSpec ws rm).room.cells = mc from hrc]; exact hp.1
  have h5 : A.slots + (headSpec ws rm).room.slots ≤ R.slots := by rw [show (headSpec ws rm).room.slots = ms from hrs]; exact hp.2.1
  have hPc : Pc a (A.U.calling g mk a) := hblind _ _ _ _ hp.2.2
  obtain ⟨U, Ls, c0, s0⟩ := A
  dsimp only [Pt.U, Pt.locs, Pt.cells, Pt.slots] at h1 h2 h3 h4 h5 X hn hPc ⊢
  obtain ⟨m9, methY, cY, hn9, hmY, hcY, -, hlY, -⟩ := Cond.codeWith_spec h2
  cases Option.some.inj (hn9.symm.trans hn)
  obtain ⟨kY, hkY, -⟩ := className_of_methodNamed hn
  have hinitY : kY.init = .initialized := Cond.initialized_spec (findClass_of_methodNamed hn) hkY h3
  have h : At U g.method c below := by rw [hg]; exact X.here
  have hlocals9 : W9 + (maxL + 11) + (headSpec ws rm).room.locals ≤ R.locals := hlocals
  have happ : (headSpec ws rm).appliesLoose y e.platform (U.calling g mk a) = true :=
    Spec.appliesLoose_calling (g := g) h hdg hn hkY hinitY
      (X.room_calling (g := g) (R' := (headSpec ws rm).room) hsize hmY hcY hframes (by rw [hlY]; omega) h4 h5) h1
  obtain ⟨mid, hmid⟩ := h.above
  have hfr : (U.setTop g).frames = (.java g :: mid) ++ below := by rw [State.frames_setTop' g h.top, hmid]; rfl
  obtain ⟨o, s₂, hsteps, -, hend, hq⟩ := Steps.callFree hM p X.admits X.cas X.clock (acts := []) hfr happ hPc trivial
  have hq' : vx_Q Qc XC mc ms free a (U.calling g mk a) o s₂ := hq
  rw [State.frames_setTop' g h.top] at hend
  obtain ⟨g₀, hg0⟩ := Option.isSome_iff_exists.mp h.top
  obtain ⟨r, hr⟩ := State.topJava?_eq_some.mp hg0
  have hr' : (({ U with heap := s₂.heap, slotsUsed := s₂.slotsUsed } : State).setVm s₂.vm).frames = .java g₀ :: r := hr
  rcases hq' with ⟨hqc, L, hfe, hL⟩ | ⟨q, rfl, E, ce, L, hx, hce, hcv, hcl, hW₂, hsm, hL⟩
  · obtain ⟨⟨v, rfl⟩, hW₂, e2, q2, q3, q4, q5, q6⟩ := id hfe
    have e3 : s₂ = ({ (U.calling g mk a).setFrames s₂.frames with heap := s₂.heap, slotsUsed := s₂.slotsUsed } : State).setVm s₂.vm := by
      have : s₂ = ({ s₂ with vm := (U.calling g mk a).vm } : State).setVm s₂.vm := rfl
      rw [e2] at this
      exact this
    obtain ⟨c₂, i₂, len₂, hc₂, hd₂, hf₂⟩ := hend
    have hW' : U.WarmedH s₂.vm := hW₂
    have hcc : c₂ = c := by
      have h1 : s₂.code? g.method = U.code? g.method := by
        rw [State.code?_eq, State.code?_eq, hW'.alike.method?]
      exact Option.some.inj (hc₂.symm.trans (h1.trans h.code))
    subst hcc
    have hlen : len₂ = len := by rw [hdg] at hd₂; cases hd₂; rfl
    subst hlen
    have hs₂ : s₂ = (({ U with heap := s₂.heap, slotsUsed := s₂.slotsUsed } : State).setVm s₂.vm).setTop { g with pc := g.pc + len₂, stack := v.toList ++ g.stack } := by
      refine e3.trans ?_
      rw [hf₂, State.calling_eq h.top, State.setFrames_setFrames, State.setTop_of_frames _ hr', hr]
      rfl
    have hsame : U.sameButNew ({ U with heap := s₂.heap, slotsUsed := s₂.slotsUsed } : State) L mc ms := by
      refine ⟨?_, q2, q3, q4, q5, q6⟩
      obtain ⟨t, ht, -⟩ := State.frames_cons hr
      show ({ U with heap := s₂.heap, slotsUsed := s₂.slotsUsed } : State) = { U.setFrames U.frames with heap := s₂.heap, slotsUsed := s₂.slotsUsed }
      rw [State.setFrames_self ht]
    subst hg
    refine Or.inl ⟨v, ⟨(({ U with heap := s₂.heap, slotsUsed := s₂.slotsUsed } : State).setVm s₂.vm), Ls ++ L, c0 + mc, s0 + ms⟩,
      ⟨X.admits, X.cas, X.clock, X.frames, X.room, X.hears, X.method, X.code, (X.here.setHeapUsed s₂.heap s₂.slotsUsed).setVm hW'.alike, X.tail, State.WarmedH.trans X.warmed hW', X.limits, X.bytes, X.same.trans (hsame.setVm s.vm)⟩,
      ⟨g, mk, s₂, L, rfl, rfl, hqc, rfl, hL, rfl, rfl⟩, ?_⟩
    show Steps p.tables e below _ ((({ U with heap := s₂.heap, slotsUsed := s₂.slotsUsed } : State).setVm s₂.vm).setTop { g with pc := g.pc + len₂, stack := v.toList ++ g.stack })
    rw [← hs₂]
    exact hsteps
  · obtain ⟨e2, q2, q3, q4, q5, q6⟩ := id hsm
    have e3 : s₂ = ({ (U.calling g mk a).setFrames s₂.frames with heap := s₂.heap, slotsUsed := s₂.slotsUsed } : State).setVm s₂.vm := by
      have : s₂ = ({ s₂ with vm := (U.calling g mk a).vm } : State).setVm s₂.vm := rfl
      rw [e2] at this
      exact this
    have hf₂ : s₂.frames = .throwing q :: .java g :: U.frames.tail := hend
    have hW' : U.WarmedH s₂.vm := hW₂
    have hs₂ : s₂ = ((({ U with heap := s₂.heap, slotsUsed := s₂.slotsUsed } : State).setVm s₂.vm).setTop g).pushFrame (.throwing q) := by
      refine e3.trans ?_
      rw [hf₂, State.calling_eq h.top, State.setFrames_setFrames, State.pushFrame, State.frames_setTop _ hr', State.setTop_of_frames _ hr', State.setFrames_setFrames, hr]
      rfl
    have hsame : U.sameButNew ({ U with heap := s₂.heap, slotsUsed := s₂.slotsUsed } : State) L mc ms := by
      refine ⟨?_, q2, q3, q4, q5, q6⟩
      obtain ⟨t, ht, -⟩ := State.frames_cons hr
      show ({ U with heap := s₂.heap, slotsUsed := s₂.slotsUsed } : State) = { U.setFrames U.frames with heap := s₂.heap, slotsUsed := s₂.slotsUsed }
      rw [State.setFrames_self ht]
    subst hg
    refine Or.inr ⟨q, ⟨(({ U with heap := s₂.heap, slotsUsed := s₂.slotsUsed } : State).setVm s₂.vm), Ls ++ L, c0 + mc, s0 + ms⟩,
      ⟨X.admits, X.cas, X.clock, X.frames, X.room, X.hears, X.method, X.code, (X.here.setHeapUsed s₂.heap s₂.slotsUsed).setVm hW'.alike, X.tail, State.WarmedH.trans X.warmed hW', X.limits, X.bytes, X.same.trans (hsame.setVm s.vm)⟩,
      ⟨g, mk, s₂, L, E, ce, rfl, rfl, hx, hce, hcv, hcl, rfl, hL, rfl, rfl⟩, ?_⟩
    show Steps p.tables e below _ (((({ U with heap := s₂.heap, slotsUsed := s₂.slotsUsed } : State).setVm s₂.vm).setTop g).pushFrame (.throwing q))
    rw [← hs₂]
    exact hsteps
end
variable {p : Program} {l : Launch} {e : Env} {R : Room} {s : State} {m : MethodId} {args : Array Value} {below : List Frame} {meth : Method} {c : Code} {T : State} {H : Heap} {locs : List Loc} {cells slots : Nat}
theorem vx_callVX (X : Stand p l e R s m args below meth c T locs cells slots) (hexec : p.tables.exec = Jvm.exec) {own C : String} {index : Nat} {y : MethodName} {bytes : ByteArray} {maxL : Nat} {ret : Option FieldType} {hh : List (Nat × Nat × Nat × Nat)}
    (hown : s.vm.findClass own = some m.cls) (hlink : (Cond.methodLink own index y).before args s = true) (hinst : (Cond.instanceMethod y).before args s = true) (hsel : (Cond.selects C y y).before args s = true)
    (hcode : (Cond.codeWith y bytes maxL ret hh).before args s = true) (hy : y.cls ≠ "java/lang/invoke/MethodHandle" ∧ y.cls ≠ "java/lang/invoke/VarHandle")
    {W9 : Nat} {Pre : Pt → Array Value → Prop} {Post : Pt → Array Value → Option Value → Pt → Prop} {PostX : Pt → Array Value → Addr → Pt → Prop} (hK : vx_Back l R p e below s args y 3 W9 Pre Post PostX)
    {b : Addr} {cellB : Cell} (hcell : T.heap[b]? = some cellB) (hobj : cellB.vm.isStatics = false) (hcls : s.vm.findClass C = some cellB.cls)
    {g : JFrame} (hg : g.method = m) (hsize : g.locals.size = c.maxLocals) {argsL rest : List Value} (hlen : ∀ sig, parseMethodDescriptor y.desc = some sig → argsL.length = sig.parameters.length)
    (hstack : g.stack = argsL.reverse ++ .ref b :: rest) (hW : 2 * g.monitorRoom + (rest.map fun v => v.category).sum ≤ W9) (hdg : decode c.code g.pc = .ok (.invokevirtual index, 3))
    (hpre : ∀ vm₁, s.WarmedH vm₁ → Pre ⟨T.setVm vm₁, locs, cells, slots⟩ (Value.ref b :: argsL).toArray) :
    (∃ (v : Option Value) (vm₁ : Vm) (B : Pt), s.WarmedH vm₁ ∧ Stand p l e R s m args below meth c B.U B.locs B.cells B.slots ∧ Post ⟨T.setVm vm₁, locs, cells, slots⟩ (Value.ref b :: argsL).toArray v B ∧
      ∀ target, Steps p.tables e below (B.U.setTop { g with pc := g.pc + 3, stack := v.toList ++ rest }) target → Steps p.tables e below (T.setTop g) target) ∨
    (∃ (q : Addr) (vm₁ : Vm) (B : Pt), s.WarmedH vm₁ ∧ Stand p l e R s m args below meth c B.U B.locs B.cells B.slots ∧ PostX ⟨T.setVm vm₁, locs, cells, slots⟩ (Value.ref b :: argsL).toArray q B ∧
      Steps p.tables e below (T.setTop g) ((B.U.setTop { g with stack := rest }).pushFrame (.throwing q))) := by
  obtain ⟨mk, methM, hnamed, hmethM, hstM, habM⟩ := Cond.instanceMethod_spec hinst
  obtain ⟨m8, methM', cM, hn8, hmethM', -, -, -, -, -, -, hsigM⟩ := Cond.codeWith_spec hcode
  cases Option.some.inj (hn8.symm.trans hnamed)
  cases hmethM.symm.trans hmethM'
  obtain ⟨c2, r2, m2, q1, q2, q3, q4, kP, hkP, hkPi⟩ := Cond.selects_spec hsel
  cases hcls.symm.trans q1
  cases (State.methodFound?_of_named hnamed hy).symm.trans q2
  cases hnamed.symm.trans q3
  have hselP : selectMethod e.platform s.vm cellB.cls mk = .method mk := by rw [Launch.admits_selectMethod X.admits]; exact q4
  obtain ⟨vm₁, X₁, hstep₁⟩ := X.invokevirtual hexec hown hlink hnamed hmethM hstM hkP hkPi hy (a := b) (cell := cellB) hcell
    (fun z h => by rw [h] at hobj; cases hobj) hselP hmethM habM hkP hkPi (g := g) hg (argsL := argsL) (rest := rest) (hlen _ hsigM) hstack hdg
  rcases hK m meth c ⟨T.setVm vm₁, locs, cells, slots⟩ { g with stack := rest } (.invokevirtual index) mk (Value.ref b :: argsL).toArray X₁ hg hsize hdg hW (X₁.named hnamed) (hpre vm₁ X₁.warmed) with ⟨v, B, X', hpost, hsteps⟩ | ⟨q, B, X', hpost, hsteps⟩
  · exact Or.inl ⟨v, vm₁, B, X₁.warmed, X', hpost, fun target h => hstep₁ _ fun acts => by rw [doInvoke_state]; exact hsteps.trans h⟩
  · exact Or.inr ⟨q, vm₁, B, X₁.warmed, X', hpost, hstep₁ _ fun acts => by rw [doInvoke_state]; exact hsteps⟩
theorem vx_callSX (X : Stand p l e R s m args below meth c T locs cells slots) (hexec : p.tables.exec = Jvm.exec) {own : String} {index : Nat} {y : MethodName} {bytes : ByteArray} {maxL : Nat} {ret : Option FieldType} {hh : List (Nat × Nat × Nat × Nat)}
    (hown : s.vm.findClass own = some m.cls) (hlink : (Cond.methodLink own index y).before args s = true) (hstat : (Cond.static y).before args s = true) (hinit : (Cond.initialized y.cls).before args s = true)
    (hcode : (Cond.codeWith y bytes maxL ret hh).before args s = true) (hy : y.cls ≠ "java/lang/invoke/MethodHandle" ∧ y.cls ≠ "java/lang/invoke/VarHandle")
    {W9 : Nat} {Pre : Pt → Array Value → Prop} {Post : Pt → Array Value → Option Value → Pt → Prop} {PostX : Pt → Array Value → Addr → Pt → Prop} (hK : vx_Back l R p e below s args y 3 W9 Pre Post PostX)
    {g : JFrame} (hg : g.method = m) (hsize : g.locals.size = c.maxLocals) {argsL rest : List Value} (hlen : ∀ sig, parseMethodDescriptor y.desc = some sig → argsL.length = sig.parameters.length)
    (hstack : g.stack = argsL.reverse ++ rest) (hW : 2 * g.monitorRoom + (rest.map fun v => v.category).sum ≤ W9) (hdg : decode c.code g.pc = .ok (.invokestatic index, 3))
    (hpre : ∀ vm₁, s.WarmedH vm₁ → Pre ⟨T.setVm vm₁, locs, cells, slots⟩ argsL.toArray) :
    (∃ (v : Option Value) (vm₁ : Vm) (B : Pt), s.WarmedH vm₁ ∧ Stand p l e R s m args below meth c B.U B.locs B.cells B.slots ∧ Post ⟨T.setVm vm₁, locs, cells, slots⟩ argsL.toArray v B ∧
      ∀ target, Steps p.tables e below (B.U.setTop { g with pc := g.pc + 3, stack := v.toList ++ rest }) target → Steps p.tables e below (T.setTop g) target) ∨
    (∃ (q : Addr) (vm₁ : Vm) (B : Pt), s.WarmedH vm₁ ∧ Stand p l e R s m args below meth c B.U B.locs B.cells B.slots ∧ PostX ⟨T.setVm vm₁, locs, cells, slots⟩ argsL.toArray q B ∧
      Steps p.tables e below (T.setTop g) ((B.U.setTop { g with stack := rest }).pushFrame (.throwing q))) := by
  obtain ⟨mk, methM, cM, hnamed, hmethM, -, -, -, -, -, -, hsigM⟩ := Cond.codeWith_spec hcode
  have hstatic : methM.isStatic = true := Cond.static_spec hnamed hmethM hstat
  obtain ⟨kP, hkP, -⟩ := className_of_methodNamed hnamed
  have hinitP : kP.init = .initialized := Cond.initialized_spec (findClass_of_methodNamed hnamed) hkP hinit
  obtain ⟨vm₁, X₁, hstep₁⟩ := X.invokestatic hexec hown hlink hnamed hmethM hstatic hkP hinitP hy (g := g) hg (argsL := argsL) (rest := rest) (hlen _ hsigM) hstack hdg
  rcases hK m meth c ⟨T.setVm vm₁, locs, cells, slots⟩ { g with stack := rest } (.invokestatic index) mk argsL.toArray X₁ hg hsize hdg hW (X₁.named hnamed) (hpre vm₁ X₁.warmed) with ⟨v, B, X', hpost, hsteps⟩ | ⟨q, B, X', hpost, hsteps⟩
  · exact Or.inl ⟨v, vm₁, B, X₁.warmed, X', hpost, fun target h => hstep₁ _ fun acts => by rw [doInvoke_state]; exact hsteps.trans h⟩
  · exact Or.inr ⟨q, vm₁, B, X₁.warmed, X', hpost, hstep₁ _ fun acts => by rw [doInvoke_state]; exact hsteps⟩
theorem vx_callVW (X : Stand p l e R s m args below meth c T locs cells slots) (hexec : p.tables.exec = Jvm.exec) {own C : String} {index : Nat} {y : MethodName} {bytes : ByteArray} {maxL : Nat} {ret : Option FieldType} {hh : List (Nat × Nat × Nat × Nat)}
    (hown : s.vm.findClass own = some m.cls) (hlink : (Cond.methodLink own index y).before args s = true) (hinst : (Cond.instanceMethod y).before args s = true) (hsel : (Cond.selects C y y).before args s = true)
    (hcode : (Cond.codeWith y bytes maxL ret hh).before args s = true) (hy : y.cls ≠ "java/lang/invoke/MethodHandle" ∧ y.cls ≠ "java/lang/invoke/VarHandle")
    {W9 : Nat} {Pre : Pt → Array Value → Prop} {Post : Pt → Array Value → Option Value → Pt → Prop} (hK : Back l R p e below s args y 3 W9 Pre Post)
    {b : Addr} {cellB : Cell} (hcell : T.heap[b]? = some cellB) (hobj : cellB.vm.isStatics = false) (hcls : s.vm.findClass C = some cellB.cls)
    {g : JFrame} (hg : g.method = m) (hsize : g.locals.size = c.maxLocals) {argsL rest : List Value} (hlen : ∀ sig, parseMethodDescriptor y.desc = some sig → argsL.length = sig.parameters.length)
    (hstack : g.stack = argsL.reverse ++ .ref b :: rest) (hW : 2 * g.monitorRoom + (rest.map fun v => v.category).sum ≤ W9) (hdg : decode c.code g.pc = .ok (.invokevirtual index, 3))
    (hpre : ∀ vm₁, s.WarmedH vm₁ → Pre ⟨T.setVm vm₁, locs, cells, slots⟩ (Value.ref b :: argsL).toArray) :
    ∃ (v : Option Value) (vm₁ : Vm) (B : Pt), s.WarmedH vm₁ ∧ Stand p l e R s m args below meth c B.U B.locs B.cells B.slots ∧ Post ⟨T.setVm vm₁, locs, cells, slots⟩ (Value.ref b :: argsL).toArray v B ∧
      ∀ target, Steps p.tables e below (B.U.setTop { g with pc := g.pc + 3, stack := v.toList ++ rest }) target → Steps p.tables e below (T.setTop g) target := by
  obtain ⟨mk, methM, hnamed, hmethM, hstM, habM⟩ := Cond.instanceMethod_spec hinst
  obtain ⟨m8, methM', cM, hn8, hmethM', -, -, -, -, -, -, hsigM⟩ := Cond.codeWith_spec hcode
  cases Option.some.inj (hn8.symm.trans hnamed)
  cases hmethM.symm.trans hmethM'
  obtain ⟨c2, r2, m2, q1, q2, q3, q4, kP, hkP, hkPi⟩ := Cond.selects_spec hsel
  cases hcls.symm.trans q1
  cases (State.methodFound?_of_named hnamed hy).symm.trans q2
  cases hnamed.symm.trans q3
  have hselP : selectMethod e.platform s.vm cellB.cls mk = .method mk := by rw [Launch.admits_selectMethod X.admits]; exact q4
  obtain ⟨vm₁, X₁, hstep₁⟩ := X.invokevirtual hexec hown hlink hnamed hmethM hstM hkP hkPi hy (a := b) (cell := cellB) hcell
    (fun z h => by rw [h] at hobj; cases hobj) hselP hmethM habM hkP hkPi (g := g) hg (argsL := argsL) (rest := rest) (hlen _ hsigM) hstack hdg
  obtain ⟨v, B, X', hpost, hsteps⟩ := hK m meth c ⟨T.setVm vm₁, locs, cells, slots⟩ { g with stack := rest } (.invokevirtual index) mk (Value.ref b :: argsL).toArray X₁ hg hsize hdg hW (X₁.named hnamed) (hpre vm₁ X₁.warmed)
  exact ⟨v, vm₁, B, X₁.warmed, X', hpost, fun target h => hstep₁ _ fun acts => by rw [doInvoke_state]; exact hsteps.trans h⟩
abbrev vx_CVW (R : Room) (s : State) (args : Array Value) (own C : String) (index : Nat) (y : MethodName) (bytes : ByteArray) (maxL : Nat) (ret : Option FieldType) (hh : List (Nat × Nat × Nat × Nat)) (ws : List Cond) (rm : Room) (mc ms n : Nat) : Prop :=
  (rm.cells = mc ∧ rm.slots = ms ∧ rm.frames + 1 ≤ R.frames ∧ 8 + (maxL + 11) + rm.locals ≤ R.locals ∧ (∀ w ∈ ws, ∀ (a' : Array Value) (U : State), s.WarmedH U.vm → w.before a' U = true) ∧ Cond.codeWith y bytes maxL ret hh ∈ ws) ∧
  (Cond.codeWith y bytes maxL ret hh).before args s = true ∧ (Cond.initialized y.cls).before args s = true ∧ (y.cls ≠ "java/lang/invoke/MethodHandle" ∧ y.cls ≠ "java/lang/invoke/VarHandle") ∧
  (∀ sig, parseMethodDescriptor y.desc = some sig → n = sig.parameters.length) ∧ (Cond.methodLink own index y).before args s = true ∧ (Cond.instanceMethod y).before args s = true ∧ (Cond.selects C y y).before args s = true
theorem vx_cwVW {own C : String} {index maxL mc ms : Nat} {y : MethodName} {bytes : ByteArray} {ret : Option FieldType} {hh : List (Nat × Nat × Nat × Nat)} {Ts ws ws' : List Cond} {rm : Room} (n : Nat) (ht : ∀ w ∈ Ts, w.before args s = true) (hT : GoodIn Ts (wsV own index C y ws)) (hw : ws = Cond.codeWith y bytes maxL ret hh :: ws') (hrc : rm.cells = mc) (hrs : rm.slots = ms)
    (hd : y.cls = C ∧ y.cls ≠ "java/lang/invoke/MethodHandle" ∧ y.cls ≠ "java/lang/invoke/VarHandle" ∧ (parseMethodDescriptor y.desc).map (fun d => d.parameters.length) = some n) (hR : rm.frames + 1 ≤ R.frames ∧ 8 + (maxL + 11) + rm.locals ≤ R.locals) :
    vx_CVW R s args own C index y bytes maxL ret hh ws rm mc ms n := by
  obtain ⟨hC, hd⟩ := hd
  subst hC
  have ok : ∀ w ∈ wsV own index y.cls y ws, w.before args s = true := fun w h => ht w (hT w h).1
  have hG : GoodIn Ts ws := fun w h => hT w (by unfold wsV; exact List.mem_append_right _ h)
  have hc : Cond.codeWith y bytes maxL ret hh ∈ ws := by rw [hw]; exact List.mem_cons_self
  refine ⟨⟨hrc, hrs, hR.1, hR.2, pay_in ht hG, hc⟩, ht _ (hG _ hc).1, ok _ (by simp [wsV]), ⟨hd.1, hd.2.1⟩, fun sig h => ?_, ok _ (by simp [wsV]), ok _ (by simp [wsV]), ok _ (by simp [wsV])⟩
  have h2 := hd.2.2
  rw [h] at h2
  exact (Option.some.inj h2).symm
theorem vx_runVW {y : MethodName} {bytes cc : ByteArray} {maxL nL mc ms n index : Nat} {ret : Option FieldType} {hh : List (Nat × Nat × Nat × Nat)} {ws : List Cond} {rm : Room} {Pc : Array Value → State → Prop} {Qc : Array Value → State → Outcome → State → Prop} {free : Addr → Prop} {Ts : List Cond} {own C : String} {b : Addr} {As rest : List Value} {g : JFrame}
    (S : CallFix p m c cc nL s args Ts own) (hM : Met l y ws rm Pc Qc mc ms free) (cw : vx_CVW R s args own C index y bytes maxL ret hh ws rm mc ms n) (hp : PreV s H C b Pc As)
    (hg : g.method = m) (hn : As.length = n) (hsize : g.locals.size = nL) (hstack : g.stack = As.reverse ++ .ref b :: rest) (hW : 2 * g.monitorRoom + (rest.map fun v => v.category).sum ≤ 8) (hdg : decode cc g.pc = .ok (.invokevirtual index, 3)) (hf : cells + mc ≤ R.cells ∧ slots + ms ≤ R.slots) :
    va_Run p l e R s m args below meth c H locs cells slots mc ms g rest (Qc (Value.ref b :: As).toArray) free := by
  obtain ⟨⟨hrc, hrs, hfr, hlo, hws, hcw⟩, hcode, hini, hy, hlen, hl, hin, hse⟩ := cw
  have hK : Back l R p e below s args y 3 8 (PreOf R mc ms Pc) (PostOf Qc mc ms free) := va_backW (hh := hh) (bytes := bytes) (maxL := maxL) (ret := ret) hM hp.1 hrc hrs hfr hlo hws hcw (fun a' U hW => word_at hW (Or.inl (by first | rfl | simp [Cond.onTables, Cond.keeps, Cond.steady])) hini)
  obtain ⟨hx, hb, hml, ho, -⟩ := S
  obtain ⟨-, ⟨cellB, hcB, hoB, hclB⟩, hPc⟩ := hp
  intro T hT X
  obtain ⟨v, vm₁, ⟨U', l2, c2, s2⟩, hW₁, X', ⟨g', mk, t, L, e1, e2, hq, h1, hL, h2, h3⟩, st⟩ := vx_callVW X hx (C := C) (hh := hh) (bytes := bytes) (maxL := maxL) (ret := ret) ho hl hin hse hcode hy hK (by rw [hT]; exact hcB) hoB hclB hg (hsize.trans hml.symm) (argsL := As) (rest := rest) (fun sig h => hn.trans (hlen sig h)) hstack hW (by rw [hb]; exact hdg)
    (fun vm₁ hW₁ => ⟨hf.1, hf.2, hPc (T.setVm vm₁) hT hW₁⟩)
  dsimp only [Pt.U, Pt.locs, Pt.cells, Pt.slots] at X' e1 e2 h1 h2 h3 st
  subst h1; subst h2; subst h3
  exact ⟨v, (T.setVm vm₁).calling g' mk (Value.ref b :: As).toArray, t, U', L, hT, X', hL, e1, e2, hq, st⟩
section
variable {y : MethodName} {bytes cc : ByteArray} {maxL nL mc ms n index : Nat} {ret : Option FieldType} {ws : List Cond} {rm : Room} {Pc : Array Value → State → Prop} {Qc : Array Value → State → Outcome → State → Prop} {XC : String → State → State → Prop} {free : Addr → Prop} {Ts : List Cond} {own C : String} {b : Addr} {As rest : List Value} {g : JFrame}
theorem vx_runVX {hh : List (Nat × Nat × Nat × Nat)} (S : CallFix p m c cc nL s args Ts own) (hM : vx_Met l y ws rm Pc Qc XC mc ms free) (cw : vx_CVW R s args own C index y bytes maxL ret hh ws rm mc ms n) (hp : PreV s H C b Pc As)
    (hg : g.method = m) (hn : As.length = n) (hsize : g.locals.size = nL) (hstack : g.stack = As.reverse ++ .ref b :: rest) (hW : 2 * g.monitorRoom + (rest.map fun v => v.category).sum ≤ 8) (hdg : decode cc g.pc = .ok (.invokevirtual index, 3)) (hf : cells + mc ≤ R.cells ∧ slots + ms ≤ R.slots) :
    vx_Run p l e R s m args below meth c H locs cells slots mc ms g rest (Qc (Value.ref b :: As).toArray) XC free := by
  obtain ⟨⟨hrc, hrs, hfr, hlo, hws, hcw⟩, hcode, hini, hy, hlen, hl, hin, hse⟩ := cw
  have hK : vx_Back l R p e below s args y 3 8 (PreOf R mc ms Pc) (PostOf Qc mc ms free) (vx_Post XC mc ms free) := vx_backW (hh := hh) (bytes := bytes) (maxL := maxL) (ret := ret) hM hp.1 hrc hrs hfr hlo hws hcw (fun a' U hW => word_at hW (Or.inl (by first | rfl | simp [Cond.onTables, Cond.keeps, Cond.steady])) hini)
  obtain ⟨hx, hb, hml, ho, -⟩ := S
  obtain ⟨-, ⟨cellB, hcB, hoB, hclB⟩, hPc⟩ := hp
  intro T hT X
  rcases vx_callVX X hx (C := C) (hh := hh) (bytes := bytes) (maxL := maxL) (ret := ret) ho hl hin hse hcode hy hK (by rw [hT]; exact hcB) hoB hclB hg (hsize.trans hml.symm) (argsL := As) (rest := rest) (fun sig h => hn.trans (hlen sig h)) hstack hW (by rw [hb]; exact hdg)
    (fun vm₁ hW₁ => ⟨hf.1, hf.2, hPc (T.setVm vm₁) hT hW₁⟩) with ⟨v, vm₁, ⟨U', l2, c2, s2⟩, hW₁, X', ⟨g', mk, t, L, e1, e2, hq, h1, hL, h2, h3⟩, st⟩ | ⟨q, vm₁, ⟨U', l2, c2, s2⟩, hW₁, X', ⟨g', mk, t, L, E, ce, e1, e2, hq, hce, hcv, hcl, h1, hL, h2, h3⟩, st⟩
  · dsimp only [Pt.U, Pt.locs, Pt.cells, Pt.slots] at X' e1 e2 h1 h2 h3 st
    subst h1; subst h2; subst h3
    exact Or.inl ⟨v, (T.setVm vm₁).calling g' mk (Value.ref b :: As).toArray, t, U', L, hT, X', hL, e1, e2, hq, st⟩
  · dsimp only [Pt.U, Pt.locs, Pt.cells, Pt.slots] at X' e1 e2 h1 h2 h3 st hcl
    subst h1; subst h2; subst h3
    exact Or.inr ⟨q, (T.setVm vm₁).calling g' mk (Value.ref b :: As).toArray, t, U', L, E, ce, hT, X', hL, e1, e2, hq, hce, hcv, vx_cls hW₁ hcl, st⟩
theorem vx_runSX {hh : List (Nat × Nat × Nat × Nat)} (S : CallFix p m c cc nL s args Ts own) (hM : vx_Met l y ws rm Pc Qc XC mc ms free) (cw : vx_CSW R s args own index y bytes maxL ret hh ws rm mc ms n) (hp : PreS s H Pc As)
    (hg : g.method = m) (hn : As.length = n) (hsize : g.locals.size = nL) (hstack : g.stack = As.reverse ++ rest) (hW : 2 * g.monitorRoom + (rest.map fun v => v.category).sum ≤ 8) (hdg : decode cc g.pc = .ok (.invokestatic index, 3)) (hf : cells + mc ≤ R.cells ∧ slots + ms ≤ R.slots) :
    vx_Run p l e R s m args below meth c H locs cells slots mc ms g rest (Qc As.toArray) XC free := by
  obtain ⟨⟨hrc, hrs, hfr, hlo, hws, hcw⟩, hcode, hini, hy, hlen, hl, hstt⟩ := cw
  have hK : vx_Back l R p e below s args y 3 8 (PreOf R mc ms Pc) (PostOf Qc mc ms free) (vx_Post XC mc ms free) := vx_backW (hh := hh) (bytes := bytes) (maxL := maxL) (ret := ret) hM hp.1 hrc hrs hfr hlo hws hcw (fun a' U hW => word_at hW (Or.inl (by first | rfl | simp [Cond.onTables, Cond.keeps, Cond.steady])) hini)
  obtain ⟨hx, hb, hml, ho, -⟩ := S
  intro T hT X
  rcases vx_callSX X hx (hh := hh) (bytes := bytes) (maxL := maxL) (ret := ret) ho hl hstt hini hcode hy hK hg (hsize.trans hml.symm) (argsL := As) (rest := rest) (fun sig h => hn.trans (hlen sig h)) hstack hW (by rw [hb]; exact hdg)
    (fun vm₁ hW₁ => ⟨hf.1, hf.2, hp.2 (T.setVm vm₁) hT hW₁⟩) with ⟨v, vm₁, ⟨U', l2, c2, s2⟩, hW₁, X', ⟨g', mk, t, L, e1, e2, hq, h1, hL, h2, h3⟩, st⟩ | ⟨q, vm₁, ⟨U', l2, c2, s2⟩, hW₁, X', ⟨g', mk, t, L, E, ce, e1, e2, hq, hce, hcv, hcl, h1, hL, h2, h3⟩, st⟩
  · dsimp only [Pt.U, Pt.locs, Pt.cells, Pt.slots] at X' e1 e2 h1 h2 h3 st
    subst h1; subst h2; subst h3
    exact Or.inl ⟨v, (T.setVm vm₁).calling g' mk As.toArray, t, U', L, hT, X', hL, e1, e2, hq, st⟩
  · dsimp only [Pt.U, Pt.locs, Pt.cells, Pt.slots] at X' e1 e2 h1 h2 h3 st hcl
    subst h1; subst h2; subst h3
    exact Or.inr ⟨q, (T.setVm vm₁).calling g' mk As.toArray, t, U', L, E, ce, hT, X', hL, e1, e2, hq, hce, hcv, vx_cls hW₁ hcl, st⟩
end
end VXH
theorem vx_ofWH {l : Launch} {y : MethodName} {ws ws' : List Cond} {rm : Room} {Pc : Array Value → State → Prop} {Qc : Array Value → State → Outcome → State → Prop} {XC : String → State → State → Prop} {mc ms : Nat} {free : Addr → Prop} {cc : ByteArray} {maxL : Nat} {ret : Option FieldType} {hh : List (Nat × Nat × Nat × Nat)}
    (hy : plainName y.cls = true) (hw : ws = Cond.codeWith y cc maxL ret hh :: ws')
    (body : ∀ p e s m args below meth c s₁, BodyLoose p l y (headSpec ws rm) cc maxL ret e s m args below meth c s₁ → c.maxLocals = maxL → Pc args s →
      W p l e (headSpec ws rm).room s m args below meth c s.heap [] 0 0 (vx_MQ below Qc XC args s mc ms free) (entryFrame m args maxL)) : vx_Met l y ws rm Pc Qc XC mc ms free := by
  refine MetFree.of_bodyS (code := cc) (maxLocals := maxL) (ret := ret) hy ?_ ?_
  · intro args s m h hn
    obtain ⟨m9, meth, c, hn9, h1, h2, h3, h4, -, h5, h6, -⟩ := Cond.codeWith_spec (atoms_spec (ws := ws) h _ (by rw [hw]; exact List.mem_cons_self))
    cases hn.symm.trans hn9
    exact ⟨meth, c, h1, h2, h3, h4, h5, h6⟩
  · intro p e s m args below meth c s₁ B hml hP _
    have hh0 : s₁.heap = s.heap := by rw [B.state]; rfl
    obtain ⟨t, a1, o, b1, b2, b3⟩ := body p e s m args below meth c s₁ B hml hP s₁ hh0 (Stand.of_body B)
    exact ⟨t, o, a1, b1, b2, b3⟩
/-! ===== END ===== -/
end
section
/-! ===== BEGIN printed: names, fields, word lists, decode rows ===== -/
def RX0 : String := "LicenceKeeper$Layings"
def TX0 : u_T := fun k => match k with
  | 0 => ("LicenceKeeper$Layings", "machineTakes", "[I", true)
  | 1 => ("LicenceKeeper$Layings", "machineCovers", "[I", true)
  | 2 => ("LicenceKeeper$Layings", "setWeights", "[I", true)
  | 3 => ("LicenceKeeper$Layings", "havers", "I", false)
  | 4 => ("LicenceKeeper$Layings", "taken", "[I", true)
  | 5 => ("LicenceKeeper$Layings", "takenNext", "[I", true)
  | _ => ("LicenceKeeper$Layings", "setCovers", "[I", true)
def tyX0 : Nat → FieldType := fun k => match k with
  | 0 => .array .int
  | 1 => .array .int
  | 2 => .array .int
  | 3 => .int
  | 4 => .array .int
  | 5 => .array .int
  | _ => .array .int
abbrev wsX00 : List Cond := u_ws RX0 TX0 7
theorem nmX0 : ∀ a, a < 7 → ∀ b, b < 7 → a ≠ b → (TX0 a).2.1 ≠ (TX0 b).2.1 := by decide +kernel
theorem tyX0_ok : ∀ k, k < 7 → parseFieldDescriptor (TX0 k).2.2.1 = some (tyX0 k) := by decide +kernel
abbrev cX0_init : ByteArray := prog_2_method_1_code
def yX0_init : MethodName := ⟨RX0, "<init>", "()V"⟩
abbrev cX0_clearAll : ByteArray := prog_2_method_2_code
def yX0_clearAll : MethodName := ⟨RX0, "clearAll", "()V"⟩
abbrev cX0_weigh : ByteArray := prog_2_method_3_code
def yX0_weigh : MethodName := ⟨RX0, "weigh", "(IZI)V"⟩
abbrev cX0_layOpen : ByteArray := prog_2_method_4_code
def yX0_layOpen : MethodName := ⟨RX0, "layOpen", "()V"⟩
abbrev cX0_closeWithin : ByteArray := prog_2_method_5_code
def yX0_closeWithin : MethodName := ⟨RX0, "closeWithin", "(I)V"⟩
abbrev cX0_layOnAllSets : ByteArray := prog_2_method_6_code
def yX0_layOnAllSets : MethodName := ⟨RX0, "layOnAllSets", "(I)V"⟩
abbrev cX0_coverOfSet : ByteArray := prog_2_method_7_code
def yX0_coverOfSet : MethodName := ⟨RX0, "coverOfSet", "(II)I"⟩
abbrev cX0_addToAll : ByteArray := prog_2_method_8_code
def yX0_addToAll : MethodName := ⟨RX0, "addToAll", "(I)V"⟩
abbrev cX0_leastUncoveredWithin : ByteArray := prog_2_method_9_code
def yX0_leastUncoveredWithin : MethodName := ⟨RX0, "leastUncoveredWithin", "(I)I"⟩
abbrev cX0_isLess : ByteArray := prog_2_method_10_code
def yX0_isLess : MethodName := ⟨RX0, "isLess", "(II)Z"⟩
abbrev cX0_leastTakenFor : ByteArray := prog_2_method_11_code
def yX0_leastTakenFor : MethodName := ⟨RX0, "leastTakenFor", "(I)I"⟩
abbrev cX0_weightOfSet : ByteArray := prog_2_method_12_code
def yX0_weightOfSet : MethodName := ⟨RX0, "weightOfSet", "(I)I"⟩
def RX1 : String := "LicenceKeeper$Right"
def TX1 : u_T := fun k => match k with
  | 0 => ("LicenceKeeper$Right", "product", "I", true)
  | 1 => ("LicenceKeeper$Right", "measure", "I", true)
  | 2 => ("LicenceKeeper$Right", "lastCareDay", "I", true)
  | 3 => ("LicenceKeeper$Right", "version", "I", false)
  | 4 => ("LicenceKeeper$Right", "count", "I", false)
  | _ => ("LicenceKeeper$Right", "lent", "I", false)
def tyX1 : Nat → FieldType := fun k => match k with
  | 0 => .int
  | 1 => .int
  | 2 => .int
  | 3 => .int
  | 4 => .int
  | _ => .int
abbrev wsX10 : List Cond := u_ws RX1 TX1 6
theorem nmX1 : ∀ a, a < 6 → ∀ b, b < 6 → a ≠ b → (TX1 a).2.1 ≠ (TX1 b).2.1 := by decide +kernel
theorem tyX1_ok : ∀ k, k < 6 → parseFieldDescriptor (TX1 k).2.2.1 = some (tyX1 k) := by decide +kernel
abbrev cX1_init : ByteArray := prog_3_method_1_code
def yX1_init : MethodName := ⟨RX1, "<init>", "(IIIII)V"⟩
def RX2 : String := "LicenceKeeper"
def TX2 : u_T := fun k => match k with
  | 0 => ("LicenceKeeper", "cores", "[I", true)
  | 1 => ("LicenceKeeper", "hosts", "[I", true)
  | 2 => ("LicenceKeeper", "supposedHosts", "[I", true)
  | 3 => ("LicenceKeeper", "found", "[[I", true)
  | 4 => ("LicenceKeeper", "latestVersions", "[I", true)
  | 5 => ("LicenceKeeper", "prices", "[I", true)
  | 6 => ("LicenceKeeper", "held", "Ljava/util/ArrayList;", true)
  | 7 => ("LicenceKeeper", "layings", "LLicenceKeeper$Layings;", true)
  | _ => ("LicenceKeeper", "day", "I", false)
def tyX2 : Nat → FieldType := fun k => match k with
  | 0 => .array .int
  | 1 => .array .int
  | 2 => .array .int
  | 3 => .array (.array .int)
  | 4 => .array .int
  | 5 => .array .int
  | 6 => .object "java/util/ArrayList"
  | 7 => .object "LicenceKeeper$Layings"
  | _ => .int
abbrev wsX20 : List Cond := u_ws RX2 TX2 9
theorem nmX2 : ∀ a, a < 9 → ∀ b, b < 9 → a ≠ b → (TX2 a).2.1 ≠ (TX2 b).2.1 := by decide +kernel
theorem tyX2_ok : ∀ k, k < 9 → parseFieldDescriptor (TX2 k).2.2.1 = some (tyX2 k) := by decide +kernel
abbrev cX2_init : ByteArray := prog_1_method_1_code
def yX2_init : MethodName := ⟨RX2, "<init>", "()V"⟩
abbrev cX2_setCores : ByteArray := prog_1_method_2_code
def yX2_setCores : MethodName := ⟨RX2, "setCores", "(II)I"⟩
abbrev cX2_move : ByteArray := prog_1_method_3_code
def yX2_move : MethodName := ⟨RX2, "move", "(II)I"⟩
abbrev cX2_find : ByteArray := prog_1_method_4_code
def yX2_find : MethodName := ⟨RX2, "find", "(III)I"⟩
abbrev cX2_setPrice : ByteArray := prog_1_method_5_code
def yX2_setPrice : MethodName := ⟨RX2, "setPrice", "(II)I"⟩
abbrev cX2_release : ByteArray := prog_1_method_6_code
def yX2_release : MethodName := ⟨RX2, "release", "(I)I"⟩
abbrev cX2_buy : ByteArray := prog_1_method_7_code
def yX2_buy : MethodName := ⟨RX2, "buy", "(IIII)I"⟩
abbrev cX2_upgrade : ByteArray := prog_1_method_8_code
def yX2_upgrade : MethodName := ⟨RX2, "upgrade", "(II)I"⟩
abbrev cX2_lend : ByteArray := prog_1_method_9_code
def yX2_lend : MethodName := ⟨RX2, "lend", "(II)I"⟩
abbrev cX2_pass : ByteArray := prog_1_method_10_code
def yX2_pass : MethodName := ⟨RX2, "pass", "(I)I"⟩
abbrev cX2_today : ByteArray := prog_1_method_11_code
def yX2_today : MethodName := ⟨RX2, "today", "()I"⟩
abbrev cX2_rights : ByteArray := prog_1_method_12_code
def yX2_rights : MethodName := ⟨RX2, "rights", "()I"⟩
abbrev cX2_countOf : ByteArray := prog_1_method_13_code
def yX2_countOf : MethodName := ⟨RX2, "countOf", "(I)I"⟩
abbrev cX2_versionOf : ByteArray := prog_1_method_14_code
def yX2_versionOf : MethodName := ⟨RX2, "versionOf", "(I)I"⟩
abbrev cX2_latest : ByteArray := prog_1_method_15_code
def yX2_latest : MethodName := ⟨RX2, "latest", "(I)I"⟩
abbrev cX2_hostOf : ByteArray := prog_1_method_16_code
def yX2_hostOf : MethodName := ⟨RX2, "hostOf", "(I)I"⟩
abbrev cX2_weight : ByteArray := prog_1_method_17_code
def yX2_weight : MethodName := ⟨RX2, "weight", "(II)I"⟩
abbrev cX2_covers : ByteArray := prog_1_method_18_code
def yX2_covers : MethodName := ⟨RX2, "covers", "(II)I"⟩
abbrev cX2_gap : ByteArray := prog_1_method_19_code
def yX2_gap : MethodName := ⟨RX2, "gap", "(I)I"⟩
abbrev cX2_uncovered : ByteArray := prog_1_method_20_code
def yX2_uncovered : MethodName := ⟨RX2, "uncovered", "(I)I"⟩
abbrev cX2_gapByAll : ByteArray := prog_1_method_21_code
def yX2_gapByAll : MethodName := ⟨RX2, "gapByAll", "(I)I"⟩
abbrev cX2_gapIf : ByteArray := prog_1_method_22_code
def yX2_gapIf : MethodName := ⟨RX2, "gapIf", "(III)I"⟩
abbrev cX2_spare : ByteArray := prog_1_method_23_code
def yX2_spare : MethodName := ⟨RX2, "spare", "(I)I"⟩
abbrev cX2_requireMachine : ByteArray := prog_1_method_24_code
def yX2_requireMachine : MethodName := ⟨RX2, "requireMachine", "(I)V"⟩
abbrev cX2_requireProduct : ByteArray := prog_1_method_25_code
def yX2_requireProduct : MethodName := ⟨RX2, "requireProduct", "(I)V"⟩
abbrev cX2_requireRange : ByteArray := prog_1_method_26_code
def yX2_requireRange : MethodName := ⟨RX2, "requireRange", "(III)V"⟩
abbrev cX2_requireCount : ByteArray := prog_1_method_27_code
def yX2_requireCount : MethodName := ⟨RX2, "requireCount", "(LLicenceKeeper$Right;I)V"⟩
abbrev cX2_requireRoomForRight : ByteArray := prog_1_method_28_code
def yX2_requireRoomForRight : MethodName := ⟨RX2, "requireRoomForRight", "()V"⟩
abbrev cX2_requireMovable : ByteArray := prog_1_method_29_code
def yX2_requireMovable : MethodName := ⟨RX2, "requireMovable", "(II)V"⟩
abbrev cX2_requireFewRights : ByteArray := prog_1_method_30_code
def yX2_requireFewRights : MethodName := ⟨RX2, "requireFewRights", "(I)V"⟩
abbrev cX2_rightAt : ByteArray := prog_1_method_31_code
def yX2_rightAt : MethodName := ⟨RX2, "rightAt", "(I)LLicenceKeeper$Right;"⟩
abbrev cX2_isHost : ByteArray := prog_1_method_32_code
def yX2_isHost : MethodName := ⟨RX2, "isHost", "(I)Z"⟩
abbrev cX2_addRight : ByteArray := prog_1_method_33_code
def yX2_addRight : MethodName := ⟨RX2, "addRight", "(IIII)I"⟩
abbrev cX2_weightOn : ByteArray := prog_1_method_34_code
def yX2_weightOn : MethodName := ⟨RX2, "weightOn", "(II)I"⟩
abbrev cX2_takenOn : ByteArray := prog_1_method_35_code
def yX2_takenOn : MethodName := ⟨RX2, "takenOn", "(LLicenceKeeper$Right;I)I"⟩
abbrev cX2_coverOn : ByteArray := prog_1_method_36_code
def yX2_coverOn : MethodName := ⟨RX2, "coverOn", "(LLicenceKeeper$Right;I[I)I"⟩
abbrev cX2_leastUncovered : ByteArray := prog_1_method_37_code
def yX2_leastUncovered : MethodName := ⟨RX2, "leastUncovered", "(I[I)I"⟩
abbrev cX2_layAllBut : ByteArray := prog_1_method_38_code
def yX2_layAllBut : MethodName := ⟨RX2, "layAllBut", "(II[I)V"⟩
abbrev cX2_startLayings : ByteArray := prog_1_method_39_code
def yX2_startLayings : MethodName := ⟨RX2, "startLayings", "(I)V"⟩
abbrev cX2_takeUp : ByteArray := prog_1_method_40_code
def yX2_takeUp : MethodName := ⟨RX2, "takeUp", "(LLicenceKeeper$Right;[I)V"⟩
def RX3 : String := "LicenceKeeperModel"
def TX3 : u_T := fun k => match k with
  | 0 => ("LicenceKeeperModel", "thrown", "I", false)
  | 1 => ("LicenceKeeperModel", "now", "I", false)
  | 2 => ("LicenceKeeperModel", "cores", "[I", true)
  | 3 => ("LicenceKeeperModel", "host", "[I", true)
  | 4 => ("LicenceKeeperModel", "version", "[I", true)
  | 5 => ("LicenceKeeperModel", "latest", "[I", true)
  | 6 => ("LicenceKeeperModel", "price", "[I", true)
  | 7 => ("LicenceKeeperModel", "rights", "I", false)
  | 8 => ("LicenceKeeperModel", "product", "[I", true)
  | 9 => ("LicenceKeeperModel", "measure", "[I", true)
  | 10 => ("LicenceKeeperModel", "count", "[I", true)
  | 11 => ("LicenceKeeperModel", "lent", "[I", true)
  | 12 => ("LicenceKeeperModel", "of", "[I", true)
  | 13 => ("LicenceKeeperModel", "last", "[I", true)
  | 14 => ("LicenceKeeperModel", "can", "[Z", true)
  | 15 => ("LicenceKeeperModel", "then", "[Z", true)
  | 16 => ("LicenceKeeperModel", "takes", "[I", true)
  | 17 => ("LicenceKeeperModel", "spread", "[I", true)
  | _ => ("LicenceKeeperModel", "bare", "I", false)
def tyX3 : Nat → FieldType := fun k => match k with
  | 0 => .int
  | 1 => .int
  | 2 => .array .int
  | 3 => .array .int
  | 4 => .array .int
  | 5 => .array .int
  | 6 => .array .int
  | 7 => .int
  | 8 => .array .int
  | 9 => .array .int
  | 10 => .array .int
  | 11 => .array .int
  | 12 => .array .int
  | 13 => .array .int
  | 14 => .array .boolean
  | 15 => .array .boolean
  | 16 => .array .int
  | 17 => .array .int
  | _ => .int
abbrev wsX30 : List Cond := u_ws RX3 TX3 19
theorem nmX3 : ∀ a, a < 19 → ∀ b, b < 19 → a ≠ b → (TX3 a).2.1 ≠ (TX3 b).2.1 := by decide +kernel
theorem tyX3_ok : ∀ k, k < 19 → parseFieldDescriptor (TX3 k).2.2.1 = some (tyX3 k) := by decide +kernel
abbrev cX3_init : ByteArray := prog_5_method_1_code
def yX3_init : MethodName := ⟨RX3, "<init>", "()V"⟩
abbrev cX3_thrown : ByteArray := prog_5_method_2_code
def yX3_thrown : MethodName := ⟨RX3, "thrown", "()I"⟩
abbrev cX3_fails : ByteArray := prog_5_method_3_code
def yX3_fails : MethodName := ⟨RX3, "fails", "(I)I"⟩
abbrev cX3_in : ByteArray := prog_5_method_4_code
def yX3_in : MethodName := ⟨RX3, "in", "(III)Z"⟩
abbrev cX3_isMachine : ByteArray := prog_5_method_5_code
def yX3_isMachine : MethodName := ⟨RX3, "isMachine", "(I)Z"⟩
abbrev cX3_isProduct : ByteArray := prog_5_method_6_code
def yX3_isProduct : MethodName := ⟨RX3, "isProduct", "(I)Z"⟩
abbrev cX3_isRight : ByteArray := prog_5_method_7_code
def yX3_isRight : MethodName := ⟨RX3, "isRight", "(I)Z"⟩
abbrev cX3_setCores : ByteArray := prog_5_method_8_code
def yX3_setCores : MethodName := ⟨RX3, "setCores", "(II)I"⟩
abbrev cX3_isHost : ByteArray := prog_5_method_9_code
def yX3_isHost : MethodName := ⟨RX3, "isHost", "(I)Z"⟩
abbrev cX3_refuses : ByteArray := prog_5_method_10_code
def yX3_refuses : MethodName := ⟨RX3, "refuses", "(II)I"⟩
abbrev cX3_move : ByteArray := prog_5_method_11_code
def yX3_move : MethodName := ⟨RX3, "move", "(II)I"⟩
abbrev cX3_find : ByteArray := prog_5_method_12_code
def yX3_find : MethodName := ⟨RX3, "find", "(III)I"⟩
abbrev cX3_setPrice : ByteArray := prog_5_method_13_code
def yX3_setPrice : MethodName := ⟨RX3, "setPrice", "(II)I"⟩
abbrev cX3_release : ByteArray := prog_5_method_14_code
def yX3_release : MethodName := ⟨RX3, "release", "(I)I"⟩
abbrev cX3_lays : ByteArray := prog_5_method_15_code
def yX3_lays : MethodName := ⟨RX3, "lays", "(IIII)I"⟩
abbrev cX3_buy : ByteArray := prog_5_method_16_code
def yX3_buy : MethodName := ⟨RX3, "buy", "(IIII)I"⟩
abbrev cX3_upgrade : ByteArray := prog_5_method_17_code
def yX3_upgrade : MethodName := ⟨RX3, "upgrade", "(II)I"⟩
abbrev cX3_lend : ByteArray := prog_5_method_18_code
def yX3_lend : MethodName := ⟨RX3, "lend", "(II)I"⟩
abbrev cX3_pass : ByteArray := prog_5_method_19_code
def yX3_pass : MethodName := ⟨RX3, "pass", "(I)I"⟩
abbrev cX3_today : ByteArray := prog_5_method_20_code
def yX3_today : MethodName := ⟨RX3, "today", "()I"⟩
abbrev cX3_rights : ByteArray := prog_5_method_21_code
def yX3_rights : MethodName := ⟨RX3, "rights", "()I"⟩
abbrev cX3_countOf : ByteArray := prog_5_method_22_code
def yX3_countOf : MethodName := ⟨RX3, "countOf", "(I)I"⟩
abbrev cX3_versionOf : ByteArray := prog_5_method_23_code
def yX3_versionOf : MethodName := ⟨RX3, "versionOf", "(I)I"⟩
abbrev cX3_latest : ByteArray := prog_5_method_24_code
def yX3_latest : MethodName := ⟨RX3, "latest", "(I)I"⟩
abbrev cX3_hostOf : ByteArray := prog_5_method_25_code
def yX3_hostOf : MethodName := ⟨RX3, "hostOf", "(I)I"⟩
abbrev cX3_weighs : ByteArray := prog_5_method_26_code
def yX3_weighs : MethodName := ⟨RX3, "weighs", "(II)I"⟩
abbrev cX3_weight : ByteArray := prog_5_method_27_code
def yX3_weight : MethodName := ⟨RX3, "weight", "(II)I"⟩
abbrev cX3_covered : ByteArray := prog_5_method_28_code
def yX3_covered : MethodName := ⟨RX3, "covered", "(II)I"⟩
abbrev cX3_covers : ByteArray := prog_5_method_29_code
def yX3_covers : MethodName := ⟨RX3, "covers", "(II)I"⟩
abbrev cX3_spreads : ByteArray := prog_5_method_30_code
def yX3_spreads : MethodName := ⟨RX3, "spreads", "(I)V"⟩
abbrev cX3_least : ByteArray := prog_5_method_31_code
def yX3_least : MethodName := ⟨RX3, "least", "(I)I"⟩
abbrev cX3_gap : ByteArray := prog_5_method_32_code
def yX3_gap : MethodName := ⟨RX3, "gap", "(I)I"⟩
abbrev cX3_uncovered : ByteArray := prog_5_method_33_code
def yX3_uncovered : MethodName := ⟨RX3, "uncovered", "(I)I"⟩
abbrev cX3_gapByAll : ByteArray := prog_5_method_34_code
def yX3_gapByAll : MethodName := ⟨RX3, "gapByAll", "(I)I"⟩
abbrev cX3_gapIf : ByteArray := prog_5_method_35_code
def yX3_gapIf : MethodName := ⟨RX3, "gapIf", "(III)I"⟩
abbrev cX3_spare : ByteArray := prog_5_method_36_code
def yX3_spare : MethodName := ⟨RX3, "spare", "(I)I"⟩
def RJx145de : String := "java/io/Serializable"
def TJx145de : u_T := fun k => match k with
  | _ => ("", "", "", false)
def tyJx145de : Nat → FieldType := fun k => match k with
  | _ => .int
abbrev wsJx145de0 : List Cond := u_ws RJx145de TJx145de 0
theorem nmJx145de : ∀ a, a < 0 → ∀ b, b < 0 → a ≠ b → (TJx145de a).2.1 ≠ (TJx145de b).2.1 := by decide +kernel
theorem tyJx145de_ok : ∀ k, k < 0 → parseFieldDescriptor (TJx145de k).2.2.1 = some (tyJx145de k) := by decide +kernel
def RJx8e188 : String := "java/lang/Cloneable"
def TJx8e188 : u_T := fun k => match k with
  | _ => ("", "", "", false)
def tyJx8e188 : Nat → FieldType := fun k => match k with
  | _ => .int
abbrev wsJx8e1880 : List Cond := u_ws RJx8e188 TJx8e188 0
theorem nmJx8e188 : ∀ a, a < 0 → ∀ b, b < 0 → a ≠ b → (TJx8e188 a).2.1 ≠ (TJx8e188 b).2.1 := by decide +kernel
theorem tyJx8e188_ok : ∀ k, k < 0 → parseFieldDescriptor (TJx8e188 k).2.2.1 = some (tyJx8e188 k) := by decide +kernel
def RJxab1ab : String := "java/lang/Iterable"
def TJxab1ab : u_T := fun k => match k with
  | _ => ("", "", "", false)
def tyJxab1ab : Nat → FieldType := fun k => match k with
  | _ => .int
abbrev wsJxab1ab0 : List Cond := u_ws RJxab1ab TJxab1ab 0
theorem nmJxab1ab : ∀ a, a < 0 → ∀ b, b < 0 → a ≠ b → (TJxab1ab a).2.1 ≠ (TJxab1ab b).2.1 := by decide +kernel
theorem tyJxab1ab_ok : ∀ k, k < 0 → parseFieldDescriptor (TJxab1ab k).2.2.1 = some (tyJxab1ab k) := by decide +kernel
def RJ9 : String := "java/lang/Math"
def TJ9 : u_T := fun k => match k with
  | _ => ("", "", "", false)
def tyJ9 : Nat → FieldType := fun k => match k with
  | _ => .int
abbrev wsJ90 : List Cond := u_ws RJ9 TJ9 0
theorem nmJ9 : ∀ a, a < 0 → ∀ b, b < 0 → a ≠ b → (TJ9 a).2.1 ≠ (TJ9 b).2.1 := by decide +kernel
theorem tyJ9_ok : ∀ k, k < 0 → parseFieldDescriptor (TJ9 k).2.2.1 = some (tyJ9 k) := by decide +kernel
abbrev cJ9_max_7cf53 : ByteArray := prog_13_method_65_code
def yJ9_max_7cf53 : MethodName := ⟨RJ9, "max", "(II)I"⟩
abbrev cJ9_min_7cf53 : ByteArray := prog_13_method_69_code
def yJ9_min_7cf53 : MethodName := ⟨RJ9, "min", "(II)I"⟩
def RJ0 : String := "java/lang/String"
def TJ0 : u_T := fun k => match k with
  | _ => ("", "", "", false)
def tyJ0 : Nat → FieldType := fun k => match k with
  | _ => .int
abbrev wsJ00 : List Cond := u_ws RJ0 TJ0 0
theorem nmJ0 : ∀ a, a < 0 → ∀ b, b < 0 → a ≠ b → (TJ0 a).2.1 ≠ (TJ0 b).2.1 := by decide +kernel
theorem tyJ0_ok : ∀ k, k < 0 → parseFieldDescriptor (TJ0 k).2.2.1 = some (tyJ0 k) := by decide +kernel
def RJ10 : String := "java/lang/System"
def TJ10 : u_T := fun k => match k with
  | _ => ("", "", "", false)
def tyJ10 : Nat → FieldType := fun k => match k with
  | _ => .int
abbrev wsJ100 : List Cond := u_ws RJ10 TJ10 0
theorem nmJ10 : ∀ a, a < 0 → ∀ b, b < 0 → a ≠ b → (TJ10 a).2.1 ≠ (TJ10 b).2.1 := by decide +kernel
theorem tyJ10_ok : ∀ k, k < 0 → parseFieldDescriptor (TJ10 k).2.2.1 = some (tyJ10 k) := by decide +kernel
def RJxa1e45 : String := "java/util/AbstractCollection"
def TJxa1e45 : u_T := fun k => match k with
  | _ => ("", "", "", false)
def tyJxa1e45 : Nat → FieldType := fun k => match k with
  | _ => .int
abbrev wsJxa1e450 : List Cond := u_ws RJxa1e45 TJxa1e45 0
theorem nmJxa1e45 : ∀ a, a < 0 → ∀ b, b < 0 → a ≠ b → (TJxa1e45 a).2.1 ≠ (TJxa1e45 b).2.1 := by decide +kernel
theorem tyJxa1e45_ok : ∀ k, k < 0 → parseFieldDescriptor (TJxa1e45 k).2.2.1 = some (tyJxa1e45 k) := by decide +kernel
abbrev cJxa1e45_init_da8c8 : ByteArray := prog_18_method_1_code
def yJxa1e45_init_da8c8 : MethodName := ⟨RJxa1e45, "<init>", "()V"⟩
def RJxc12de : String := "java/util/AbstractList"
def TJxc12de : u_T := fun k => match k with
  | _ => ("", "", "", false)
def tyJxc12de : Nat → FieldType := fun k => match k with
  | _ => .int
abbrev wsJxc12de0 : List Cond := u_ws RJxc12de TJxc12de 0
theorem nmJxc12de : ∀ a, a < 0 → ∀ b, b < 0 → a ≠ b → (TJxc12de a).2.1 ≠ (TJxc12de b).2.1 := by decide +kernel
theorem tyJxc12de_ok : ∀ k, k < 0 → parseFieldDescriptor (TJxc12de k).2.2.1 = some (tyJxc12de k) := by decide +kernel
abbrev cJxc12de_init_da8c8 : ByteArray := prog_19_method_1_code
def yJxc12de_init_da8c8 : MethodName := ⟨RJxc12de, "<init>", "()V"⟩
def RJx4a65c : String := "java/util/ArrayList"
def TJx4a65c : u_T := fun k => match k with
  | 0 => ("java/util/AbstractList", "modCount", "I", false)
  | 1 => ("java/util/ArrayList", "elementData", "[Ljava/lang/Object;", false)
  | _ => ("java/util/ArrayList", "size", "I", false)
def tyJx4a65c : Nat → FieldType := fun k => match k with
  | 0 => .int
  | 1 => .array (.object "java/lang/Object")
  | _ => .int
abbrev wsJx4a65c0 : List Cond := u_ws RJx4a65c TJx4a65c 3
theorem nmJx4a65c : ∀ a, a < 3 → ∀ b, b < 3 → a ≠ b → (TJx4a65c a).2.1 ≠ (TJx4a65c b).2.1 := by decide +kernel
theorem tyJx4a65c_ok : ∀ k, k < 3 → parseFieldDescriptor (TJx4a65c k).2.2.1 = some (tyJx4a65c k) := by decide +kernel
abbrev cJx4a65c_init_da8c8 : ByteArray := prog_20_method_2_code
def yJx4a65c_init_da8c8 : MethodName := ⟨RJx4a65c, "<init>", "()V"⟩
abbrev cJx4a65c_grow_92f84 : ByteArray := prog_20_method_6_code
def yJx4a65c_grow_92f84 : MethodName := ⟨RJx4a65c, "grow", "(I)[Ljava/lang/Object;"⟩
abbrev cJx4a65c_grow_d5877 : ByteArray := prog_20_method_7_code
def yJx4a65c_grow_d5877 : MethodName := ⟨RJx4a65c, "grow", "()[Ljava/lang/Object;"⟩
abbrev cJx4a65c_size_8abf5 : ByteArray := prog_20_method_8_code
def yJx4a65c_size_8abf5 : MethodName := ⟨RJx4a65c, "size", "()I"⟩
abbrev cJx4a65c_elementData_915e3 : ByteArray := prog_20_method_18_code
def yJx4a65c_elementData_915e3 : MethodName := ⟨RJx4a65c, "elementData", "(I)Ljava/lang/Object;"⟩
abbrev cJx4a65c_get_915e3 : ByteArray := prog_20_method_20_code
def yJx4a65c_get_915e3 : MethodName := ⟨RJx4a65c, "get", "(I)Ljava/lang/Object;"⟩
abbrev cJx4a65c_add_72be8 : ByteArray := prog_20_method_24_code
def yJx4a65c_add_72be8 : MethodName := ⟨RJx4a65c, "add", "(Ljava/lang/Object;[Ljava/lang/Object;I)V"⟩
abbrev cJx4a65c_add_9ea2d : ByteArray := prog_20_method_25_code
def yJx4a65c_add_9ea2d : MethodName := ⟨RJx4a65c, "add", "(Ljava/lang/Object;)Z"⟩
def RJ7 : String := "java/util/Arrays"
def TJ7 : u_T := fun k => match k with
  | _ => ("", "", "", false)
def tyJ7 : Nat → FieldType := fun k => match k with
  | _ => .int
abbrev wsJ70 : List Cond := u_ws RJ7 TJ7 0
theorem nmJ7 : ∀ a, a < 0 → ∀ b, b < 0 → a ≠ b → (TJ7 a).2.1 ≠ (TJ7 b).2.1 := by decide +kernel
theorem tyJ7_ok : ∀ k, k < 0 → parseFieldDescriptor (TJ7 k).2.2.1 = some (tyJ7 k) := by decide +kernel
abbrev cJ7_fill_53178 : ByteArray := prog_21_method_103_code
def yJ7_fill_53178 : MethodName := ⟨RJ7, "fill", "([II)V"⟩
abbrev cJ7_copyOf_1904c : ByteArray := prog_21_method_119_code
def yJ7_copyOf_1904c : MethodName := ⟨RJ7, "copyOf", "([Ljava/lang/Object;I)[Ljava/lang/Object;"⟩
abbrev cJ7_copyOf_6403c : ByteArray := prog_21_method_120_code
def yJ7_copyOf_6403c : MethodName := ⟨RJ7, "copyOf", "([Ljava/lang/Object;ILjava/lang/Class;)[Ljava/lang/Object;"⟩
def RJx5ef63 : String := "java/util/Collection"
def TJx5ef63 : u_T := fun k => match k with
  | _ => ("", "", "", false)
def tyJx5ef63 : Nat → FieldType := fun k => match k with
  | _ => .int
abbrev wsJx5ef630 : List Cond := u_ws RJx5ef63 TJx5ef63 0
theorem nmJx5ef63 : ∀ a, a < 0 → ∀ b, b < 0 → a ≠ b → (TJx5ef63 a).2.1 ≠ (TJx5ef63 b).2.1 := by decide +kernel
theorem tyJx5ef63_ok : ∀ k, k < 0 → parseFieldDescriptor (TJx5ef63 k).2.2.1 = some (tyJx5ef63 k) := by decide +kernel
def RJxbd725 : String := "java/util/List"
def TJxbd725 : u_T := fun k => match k with
  | _ => ("", "", "", false)
def tyJxbd725 : Nat → FieldType := fun k => match k with
  | _ => .int
abbrev wsJxbd7250 : List Cond := u_ws RJxbd725 TJxbd725 0
theorem nmJxbd725 : ∀ a, a < 0 → ∀ b, b < 0 → a ≠ b → (TJxbd725 a).2.1 ≠ (TJxbd725 b).2.1 := by decide +kernel
theorem tyJxbd725_ok : ∀ k, k < 0 → parseFieldDescriptor (TJxbd725 k).2.2.1 = some (tyJxbd725 k) := by decide +kernel
def RJ15 : String := "java/util/Objects"
def TJ15 : u_T := fun k => match k with
  | _ => ("", "", "", false)
def tyJ15 : Nat → FieldType := fun k => match k with
  | _ => .int
abbrev wsJ150 : List Cond := u_ws RJ15 TJ15 0
theorem nmJ15 : ∀ a, a < 0 → ∀ b, b < 0 → a ≠ b → (TJ15 a).2.1 ≠ (TJ15 b).2.1 := by decide +kernel
theorem tyJ15_ok : ∀ k, k < 0 → parseFieldDescriptor (TJ15 k).2.2.1 = some (tyJ15 k) := by decide +kernel
abbrev cJ15_checkIndex_7cf53 : ByteArray := prog_24_method_17_code
def yJ15_checkIndex_7cf53 : MethodName := ⟨RJ15, "checkIndex", "(II)I"⟩
def RJxf0a74 : String := "java/util/RandomAccess"
def TJxf0a74 : u_T := fun k => match k with
  | _ => ("", "", "", false)
def tyJxf0a74 : Nat → FieldType := fun k => match k with
  | _ => .int
abbrev wsJxf0a740 : List Cond := u_ws RJxf0a74 TJxf0a74 0
theorem nmJxf0a74 : ∀ a, a < 0 → ∀ b, b < 0 → a ≠ b → (TJxf0a74 a).2.1 ≠ (TJxf0a74 b).2.1 := by decide +kernel
theorem tyJxf0a74_ok : ∀ k, k < 0 → parseFieldDescriptor (TJxf0a74 k).2.2.1 = some (tyJxf0a74 k) := by decide +kernel
def RJxa66e6 : String := "java/util/SequencedCollection"
def TJxa66e6 : u_T := fun k => match k with
  | _ => ("", "", "", false)
def tyJxa66e6 : Nat → FieldType := fun k => match k with
  | _ => .int
abbrev wsJxa66e60 : List Cond := u_ws RJxa66e6 TJxa66e6 0
theorem nmJxa66e6 : ∀ a, a < 0 → ∀ b, b < 0 → a ≠ b → (TJxa66e6 a).2.1 ≠ (TJxa66e6 b).2.1 := by decide +kernel
theorem tyJxa66e6_ok : ∀ k, k < 0 → parseFieldDescriptor (TJxa66e6 k).2.2.1 = some (tyJxa66e6 k) := by decide +kernel
def RJ8 : String := "jdk/internal/util/ArraysSupport"
def TJ8 : u_T := fun k => match k with
  | _ => ("", "", "", false)
def tyJ8 : Nat → FieldType := fun k => match k with
  | _ => .int
abbrev wsJ80 : List Cond := u_ws RJ8 TJ8 0
theorem nmJ8 : ∀ a, a < 0 → ∀ b, b < 0 → a ≠ b → (TJ8 a).2.1 ≠ (TJ8 b).2.1 := by decide +kernel
theorem tyJ8_ok : ∀ k, k < 0 → parseFieldDescriptor (TJ8 k).2.2.1 = some (tyJ8 k) := by decide +kernel
abbrev cJ8_newLength_cabcc : ByteArray := prog_27_method_27_code
def yJ8_newLength_cabcc : MethodName := ⟨RJ8, "newLength", "(III)I"⟩
abbrev cJ8_hugeLength_7cf53 : ByteArray := prog_27_method_28_code
def yJ8_hugeLength_7cf53 : MethodName := ⟨RJ8, "hugeLength", "(II)I"⟩
def RJ3 : String := "jdk/internal/util/Preconditions"
def TJ3 : u_T := fun k => match k with
  | _ => ("", "", "", false)
def tyJ3 : Nat → FieldType := fun k => match k with
  | _ => .int
abbrev wsJ30 : List Cond := u_ws RJ3 TJ3 0
theorem nmJ3 : ∀ a, a < 0 → ∀ b, b < 0 → a ≠ b → (TJ3 a).2.1 ≠ (TJ3 b).2.1 := by decide +kernel
theorem tyJ3_ok : ∀ k, k < 0 → parseFieldDescriptor (TJ3 k).2.2.1 = some (tyJ3 k) := by decide +kernel
abbrev cJ3_checkIndex_8e157 : ByteArray := prog_28_method_11_code
def yJ3_checkIndex_8e157 : MethodName := ⟨RJ3, "checkIndex", "(IILjava/util/function/BiFunction;)I"⟩
def RL : String := "LicenceKeeperLaw"
abbrev cL_setCores : ByteArray := method_3_code
def yL_setCores : MethodName := ⟨RL, "setCores", "(LLicenceKeeper;II[J)I"⟩
abbrev cL_move : ByteArray := method_4_code
def yL_move : MethodName := ⟨RL, "move", "(LLicenceKeeper;II[J)I"⟩
abbrev cL_find : ByteArray := method_5_code
def yL_find : MethodName := ⟨RL, "find", "(LLicenceKeeper;III[J)I"⟩
abbrev cL_setPrice : ByteArray := method_6_code
def yL_setPrice : MethodName := ⟨RL, "setPrice", "(LLicenceKeeper;II[J)I"⟩
abbrev cL_release : ByteArray := method_7_code
def yL_release : MethodName := ⟨RL, "release", "(LLicenceKeeper;I[J)I"⟩
abbrev cL_buy : ByteArray := method_8_code
def yL_buy : MethodName := ⟨RL, "buy", "(LLicenceKeeper;IIII[J)I"⟩
abbrev cL_upgrade : ByteArray := method_9_code
def yL_upgrade : MethodName := ⟨RL, "upgrade", "(LLicenceKeeper;II[J)I"⟩
abbrev cL_lend : ByteArray := method_10_code
def yL_lend : MethodName := ⟨RL, "lend", "(LLicenceKeeper;II[J)I"⟩
abbrev cL_pass : ByteArray := method_11_code
def yL_pass : MethodName := ⟨RL, "pass", "(LLicenceKeeper;I[J)I"⟩
abbrev cL_countOf : ByteArray := method_12_code
def yL_countOf : MethodName := ⟨RL, "countOf", "(LLicenceKeeper;I[J)I"⟩
abbrev cL_versionOf : ByteArray := method_13_code
def yL_versionOf : MethodName := ⟨RL, "versionOf", "(LLicenceKeeper;I[J)I"⟩
abbrev cL_latest : ByteArray := method_14_code
def yL_latest : MethodName := ⟨RL, "latest", "(LLicenceKeeper;I[J)I"⟩
abbrev cL_hostOf : ByteArray := method_15_code
def yL_hostOf : MethodName := ⟨RL, "hostOf", "(LLicenceKeeper;I[J)I"⟩
abbrev cL_weight : ByteArray := method_16_code
def yL_weight : MethodName := ⟨RL, "weight", "(LLicenceKeeper;II[J)I"⟩
abbrev cL_covers : ByteArray := method_17_code
def yL_covers : MethodName := ⟨RL, "covers", "(LLicenceKeeper;II[J)I"⟩
abbrev cL_gap : ByteArray := method_18_code
def yL_gap : MethodName := ⟨RL, "gap", "(LLicenceKeeper;I[J)I"⟩
abbrev cL_uncovered : ByteArray := method_19_code
def yL_uncovered : MethodName := ⟨RL, "uncovered", "(LLicenceKeeper;I[J)I"⟩
abbrev cL_gapByAll : ByteArray := method_20_code
def yL_gapByAll : MethodName := ⟨RL, "gapByAll", "(LLicenceKeeper;I[J)I"⟩
abbrev cL_gapIf : ByteArray := method_21_code
def yL_gapIf : MethodName := ⟨RL, "gapIf", "(LLicenceKeeper;III[J)I"⟩
abbrev cL_spare : ByteArray := method_22_code
def yL_spare : MethodName := ⟨RL, "spare", "(LLicenceKeeper;I[J)I"⟩
abbrev cL_law : ByteArray := code
def yL_law : MethodName := ⟨RL, "law", "([I)Z"⟩
def wsX0_init : List Cond := .code yX0_init cX0_init 1 none :: ([.methodLink RX0 3 objectInit, .instanceMethod objectInit, .code objectInit ⟨#[0xb1]⟩ 1 none, .arrayClass .int, .fieldLink RX0 9 "LicenceKeeper$Layings" "machineTakes" "[I", .fieldLink RX0 15 "LicenceKeeper$Layings" "machineCovers" "[I", .fieldLink RX0 18 "LicenceKeeper$Layings" "setWeights" "[I", .fieldLink RX0 21 "LicenceKeeper$Layings" "havers" "I", .fieldLink RX0 25 "LicenceKeeper$Layings" "taken" "[I", .fieldLink RX0 28 "LicenceKeeper$Layings" "takenNext" "[I", .fieldLink RX0 31 "LicenceKeeper$Layings" "setCovers" "[I"] ++ wsX00)
def wsJ7_fill_53178 : List Cond := .code yJ7_fill_53178 cJ7_fill_53178 4 none :: ([])
def wsX0_clearAll : List Cond := .code yX0_clearAll cX0_clearAll 1 none :: ([.fieldLink RX0 21 "LicenceKeeper$Layings" "havers" "I", .fieldLink RX0 25 "LicenceKeeper$Layings" "taken" "[I", .constant RX0 34 (1000000), .methodLink RX0 35 yJ7_fill_53178, .static yJ7_fill_53178, .initialized RJ7, .code yJ7_fill_53178 cJ7_fill_53178 4 none] ++ wsX00)
def wsX0_weigh : List Cond := .code yX0_weigh cX0_weigh 6 none :: ([.fieldLink RX0 21 "LicenceKeeper$Layings" "havers" "I", .fieldLink RX0 18 "LicenceKeeper$Layings" "setWeights" "[I"] ++ wsX00)
def wsX0_layOpen : List Cond := .code yX0_layOpen cX0_layOpen 6 none :: ([.fieldLink RX0 15 "LicenceKeeper$Layings" "machineCovers" "[I", .fieldLink RX0 9 "LicenceKeeper$Layings" "machineTakes" "[I", .fieldLink RX0 25 "LicenceKeeper$Layings" "taken" "[I", .methodLink RX0 41 Lib.Math.min.name, .static Lib.Math.min.name, .initialized "java/lang/Math", .code Lib.Math.min.name Lib.Math.min.code 2 (some .int)] ++ wsX00)
def wsX0_closeWithin : List Cond := .code yX0_closeWithin cX0_closeWithin 3 none :: ([.fieldLink RX0 25 "LicenceKeeper$Layings" "taken" "[I", .constant RX0 34 (1000000)] ++ wsX00)
def wsX0_coverOfSet : List Cond := .code yX0_coverOfSet cX0_coverOfSet 6 (some .int) :: ([.fieldLink RX0 9 "LicenceKeeper$Layings" "machineTakes" "[I", .fieldLink RX0 15 "LicenceKeeper$Layings" "machineCovers" "[I"] ++ wsX00)
def wsX0_addToAll : List Cond := .code yX0_addToAll cX0_addToAll 3 none :: ([.fieldLink RX0 31 "LicenceKeeper$Layings" "setCovers" "[I", .fieldLink RX0 28 "LicenceKeeper$Layings" "takenNext" "[I"] ++ wsX00)
def wsX0_layOnAllSets : List Cond := .code yX0_layOnAllSets cX0_layOnAllSets 3 none :: ([.fieldLink RX0 31 "LicenceKeeper$Layings" "setCovers" "[I", .fieldLink RX0 28 "LicenceKeeper$Layings" "takenNext" "[I", .constant RX0 34 (1000000), .fieldLink RX0 25 "LicenceKeeper$Layings" "taken" "[I", .methodLink RX0 54 arraycopyName, .native arraycopyName, .static arraycopyName, .initialized "java/lang/System", .methodLink RX0 47 yX0_coverOfSet, .instanceMethod yX0_coverOfSet, .selects RX0 yX0_coverOfSet yX0_coverOfSet, .initialized RX0, .code yX0_coverOfSet cX0_coverOfSet 6 (some .int), .fieldLink RX0 9 "LicenceKeeper$Layings" "machineTakes" "[I", .fieldLink RX0 15 "LicenceKeeper$Layings" "machineCovers" "[I", .methodLink RX0 35 yJ7_fill_53178, .static yJ7_fill_53178, .initialized RJ7, .code yJ7_fill_53178 cJ7_fill_53178 4 none, .methodLink RX0 50 yX0_addToAll, .instanceMethod yX0_addToAll, .selects RX0 yX0_addToAll yX0_addToAll, .code yX0_addToAll cX0_addToAll 3 none] ++ wsX00)
def wsX0_weightOfSet : List Cond := .code yX0_weightOfSet cX0_weightOfSet 2 (some .int) :: ([.fieldLink RX0 18 "LicenceKeeper$Layings" "setWeights" "[I"] ++ wsX00)
def wsX0_isLess : List Cond := .code yX0_isLess cX0_isLess 4 (some .boolean) :: ([.methodLink RX0 64 yX0_weightOfSet, .instanceMethod yX0_weightOfSet, .selects RX0 yX0_weightOfSet yX0_weightOfSet, .initialized RX0, .code yX0_weightOfSet cX0_weightOfSet 2 (some .int), .fieldLink RX0 18 "LicenceKeeper$Layings" "setWeights" "[I"] ++ wsX00)
def wsX0_leastUncoveredWithin : List Cond := .code yX0_leastUncoveredWithin cX0_leastUncoveredWithin 5 (some .int) :: ([.fieldLink RX0 21 "LicenceKeeper$Layings" "havers" "I", .fieldLink RX0 25 "LicenceKeeper$Layings" "taken" "[I", .methodLink RX0 60 yX0_isLess, .instanceMethod yX0_isLess, .selects RX0 yX0_isLess yX0_isLess, .initialized RX0, .code yX0_isLess cX0_isLess 4 (some .boolean), .methodLink RX0 64 yX0_weightOfSet, .instanceMethod yX0_weightOfSet, .selects RX0 yX0_weightOfSet yX0_weightOfSet, .code yX0_weightOfSet cX0_weightOfSet 2 (some .int), .fieldLink RX0 18 "LicenceKeeper$Layings" "setWeights" "[I"] ++ wsX00)
def wsX0_leastTakenFor : List Cond := .code yX0_leastTakenFor cX0_leastTakenFor 4 (some .int) :: ([.constant RX0 34 (1000000), .fieldLink RX0 21 "LicenceKeeper$Layings" "havers" "I", .fieldLink RX0 25 "LicenceKeeper$Layings" "taken" "[I", .methodLink RX0 41 Lib.Math.min.name, .static Lib.Math.min.name, .initialized "java/lang/Math", .code Lib.Math.min.name Lib.Math.min.code 2 (some .int), .methodLink RX0 64 yX0_weightOfSet, .instanceMethod yX0_weightOfSet, .selects RX0 yX0_weightOfSet yX0_weightOfSet, .initialized RX0, .code yX0_weightOfSet cX0_weightOfSet 2 (some .int), .fieldLink RX0 18 "LicenceKeeper$Layings" "setWeights" "[I"] ++ wsX00)
def wsX1_init : List Cond := .code yX1_init cX1_init 6 none :: ([.methodLink RX1 1 objectInit, .instanceMethod objectInit, .code objectInit ⟨#[0xb1]⟩ 1 none, .fieldLink RX1 7 "LicenceKeeper$Right" "lent" "I", .fieldLink RX1 13 "LicenceKeeper$Right" "product" "I", .fieldLink RX1 16 "LicenceKeeper$Right" "measure" "I", .fieldLink RX1 19 "LicenceKeeper$Right" "count" "I", .fieldLink RX1 22 "LicenceKeeper$Right" "version" "I", .fieldLink RX1 25 "LicenceKeeper$Right" "lastCareDay" "I"] ++ wsX10)
def wsJxa1e45_init_da8c8 : List Cond := .code yJxa1e45_init_da8c8 cJxa1e45_init_da8c8 1 none :: ([.methodLink RJxa1e45 1 objectInit, .instanceMethod objectInit, .code objectInit ⟨#[0xb1]⟩ 1 none])
def wsJxc12de_init_da8c8 : List Cond := .code yJxc12de_init_da8c8 cJxc12de_init_da8c8 1 none :: ([.fieldLink RJxc12de 7 "java/util/AbstractList" "modCount" "I", .methodLink RJxc12de 1 yJxa1e45_init_da8c8, .instanceMethod yJxa1e45_init_da8c8, .initialized RJxa1e45, .code yJxa1e45_init_da8c8 cJxa1e45_init_da8c8 1 none, .methodLink RJxa1e45 1 objectInit, .instanceMethod objectInit, .code objectInit ⟨#[0xb1]⟩ 1 none] ++ wsJx4a65c0)
def wsJx4a65c_init_da8c8 : List Cond := .code yJx4a65c_init_da8c8 cJx4a65c_init_da8c8 1 none :: ([.fieldLink RJx4a65c 39 "java/util/ArrayList" "DEFAULTCAPACITY_EMPTY_ELEMENTDATA" "[Ljava/lang/Object;", .fieldLink RJx4a65c 9 "java/util/ArrayList" "elementData" "[Ljava/lang/Object;", .methodLink RJx4a65c 1 yJxc12de_init_da8c8, .instanceMethod yJxc12de_init_da8c8, .initialized RJxc12de, .code yJxc12de_init_da8c8 cJxc12de_init_da8c8 1 none, .fieldLink RJxc12de 7 "java/util/AbstractList" "modCount" "I", .methodLink RJxc12de 1 yJxa1e45_init_da8c8, .instanceMethod yJxa1e45_init_da8c8, .initialized RJxa1e45, .code yJxa1e45_init_da8c8 cJxa1e45_init_da8c8 1 none, .methodLink RJxa1e45 1 objectInit, .instanceMethod objectInit, .code objectInit ⟨#[0xb1]⟩ 1 none] ++ wsJx4a65c0)
def wsX2_init_r1 : List Cond := [Cond.methodLink RX2 3 objectInit, Cond.instanceMethod objectInit, Cond.code objectInit ⟨#[0xb1]⟩ 1 none, Cond.arrayClass .int, Cond.fieldLink RX2 9 "LicenceKeeper" "cores" "[I", Cond.fieldLink RX2 13 "LicenceKeeper" "hosts" "[I", Cond.fieldLink RX2 16 "LicenceKeeper" "supposedHosts" "[I", Cond.classLink RX2 19 "[[I", Cond.fieldLink RX2 21 "LicenceKeeper" "found" "[[I", Cond.fieldLink RX2 24 "LicenceKeeper" "latestVersions" "[I", Cond.fieldLink RX2 27 "LicenceKeeper" "prices" "[I", Cond.classLink RX2 30 RJx4a65c, Cond.instantiable RJx4a65c 3, Cond.initialized RJx4a65c, Cond.fieldLink RX2 33 "LicenceKeeper" "held" "Ljava/util/ArrayList;", Cond.classLink RX2 37 RX0, Cond.instantiable RX0 7, Cond.initialized RX0, Cond.fieldLink RX2 40 "LicenceKeeper" "layings" "LLicenceKeeper$Layings;", Cond.fieldLink RX2 44 "LicenceKeeper" "day" "I", Cond.methodLink RX2 32 yJx4a65c_init_da8c8, Cond.instanceMethod yJx4a65c_init_da8c8, Cond.code yJx4a65c_init_da8c8 cJx4a65c_init_da8c8 1 none, Cond.fieldLink RJx4a65c 39 "java/util/ArrayList" "DEFAULTCAPACITY_EMPTY_ELEMENTDATA" "[Ljava/lang/Object;"]
def wsX2_init_r2 : List Cond := [Cond.fieldLink RJx4a65c 9 "java/util/ArrayList" "elementData" "[Ljava/lang/Object;", Cond.methodLink RJx4a65c 1 yJxc12de_init_da8c8, Cond.instanceMethod yJxc12de_init_da8c8, Cond.initialized RJxc12de, Cond.code yJxc12de_init_da8c8 cJxc12de_init_da8c8 1 none, Cond.fieldLink RJxc12de 7 "java/util/AbstractList" "modCount" "I", Cond.methodLink RJxc12de 1 yJxa1e45_init_da8c8, Cond.instanceMethod yJxa1e45_init_da8c8, Cond.initialized RJxa1e45, Cond.code yJxa1e45_init_da8c8 cJxa1e45_init_da8c8 1 none, Cond.methodLink RJxa1e45 1 objectInit, Cond.instanceMethod yX0_init, Cond.code yX0_init cX0_init 1 none, Cond.methodLink RX0 3 objectInit, Cond.fieldLink RX0 9 "LicenceKeeper$Layings" "machineTakes" "[I", Cond.fieldLink RX0 15 "LicenceKeeper$Layings" "machineCovers" "[I", Cond.fieldLink RX0 18 "LicenceKeeper$Layings" "setWeights" "[I", Cond.fieldLink RX0 21 "LicenceKeeper$Layings" "havers" "I", Cond.fieldLink RX0 25 "LicenceKeeper$Layings" "taken" "[I", Cond.fieldLink RX0 28 "LicenceKeeper$Layings" "takenNext" "[I", Cond.fieldLink RX0 31 "LicenceKeeper$Layings" "setCovers" "[I", Cond.methodLink RX2 48 yJ7_fill_53178, Cond.static yJ7_fill_53178, Cond.initialized RJ7]
def wsX2_init_r3 : List Cond := [Cond.code yJ7_fill_53178 cJ7_fill_53178 4 none]
def wsX2_init : List Cond := .code yX2_init cX2_init 1 none :: ((wsX2_init_r1 ++ (wsX2_init_r2 ++ wsX2_init_r3)) ++ wsX20 ++ wsJx4a65c0 ++ wsX00)
def wsX2_requireMachine : List Cond := .code yX2_requireMachine cX2_requireMachine 1 none :: ([.classLink RX2 171 "java/lang/IndexOutOfBoundsException", .initialized "java/lang/IndexOutOfBoundsException"] ++ (vx_atS RX2 175 "java/lang/IndexOutOfBoundsException" ["java/lang/RuntimeException", "java/lang/Exception"]).filter goodWord)
def wsX2_requireRange : List Cond := .code yX2_requireRange cX2_requireRange 3 none :: ([.classLink RX2 178 "java/lang/IllegalArgumentException", .initialized "java/lang/IllegalArgumentException"] ++ (vx_atS RX2 182 "java/lang/IllegalArgumentException" ["java/lang/RuntimeException", "java/lang/Exception"]).filter goodWord)
def wsX2_setCores : List Cond := .code yX2_setCores cX2_setCores 4 (some .int) :: ([.fieldLink RX2 9 "LicenceKeeper" "cores" "[I", .methodLink RX2 54 yX2_requireMachine, .static yX2_requireMachine, .initialized RX2, .code yX2_requireMachine cX2_requireMachine 1 none, .classLink RX2 171 "java/lang/IndexOutOfBoundsException", .initialized "java/lang/IndexOutOfBoundsException", .methodLink RX2 58 yX2_requireRange, .static yX2_requireRange, .code yX2_requireRange cX2_requireRange 3 none, .classLink RX2 178 "java/lang/IllegalArgumentException", .initialized "java/lang/IllegalArgumentException"] ++ wsX20 ++ (vx_atS RX2 175 "java/lang/IndexOutOfBoundsException" ["java/lang/RuntimeException", "java/lang/Exception"]).filter goodWord ++ (vx_atS RX2 182 "java/lang/IllegalArgumentException" ["java/lang/RuntimeException", "java/lang/Exception"]).filter goodWord)
def wsX2_isHost : List Cond := .code yX2_isHost cX2_isHost 3 (some .boolean) :: ([.fieldLink RX2 13 "LicenceKeeper" "hosts" "[I"] ++ wsX20)
def wsX2_requireMovable : List Cond := .code yX2_requireMovable cX2_requireMovable 3 none :: ([.classLink RX2 178 "java/lang/IllegalArgumentException", .initialized "java/lang/IllegalArgumentException", .classLink RX2 69 "java/lang/IllegalStateException", .initialized "java/lang/IllegalStateException", .fieldLink RX2 13 "LicenceKeeper" "hosts" "[I", .methodLink RX2 54 yX2_requireMachine, .static yX2_requireMachine, .initialized RX2, .code yX2_requireMachine cX2_requireMachine 1 none, .classLink RX2 171 "java/lang/IndexOutOfBoundsException", .initialized "java/lang/IndexOutOfBoundsException", .methodLink RX2 189 yX2_isHost, .instanceMethod yX2_isHost, .selects RX2 yX2_isHost yX2_isHost, .code yX2_isHost cX2_isHost 3 (some .boolean)] ++ wsX20 ++ (vx_atS RX2 182 "java/lang/IllegalArgumentException" ["java/lang/RuntimeException", "java/lang/Exception"]).filter goodWord ++ (vx_atS RX2 73 "java/lang/IllegalStateException" ["java/lang/RuntimeException", "java/lang/Exception"]).filter goodWord ++ (vx_atS RX2 175 "java/lang/IndexOutOfBoundsException" ["java/lang/RuntimeException", "java/lang/Exception"]).filter goodWord)
def wsX2_move : List Cond := .code yX2_move cX2_move 4 (some .int) :: ([.fieldLink RX2 13 "LicenceKeeper" "hosts" "[I", .methodLink RX2 62 yX2_requireMovable, .instanceMethod yX2_requireMovable, .selects RX2 yX2_requireMovable yX2_requireMovable, .initialized RX2, .code yX2_requireMovable cX2_requireMovable 3 none, .classLink RX2 178 "java/lang/IllegalArgumentException", .initialized "java/lang/IllegalArgumentException", .classLink RX2 69 "java/lang/IllegalStateException", .initialized "java/lang/IllegalStateException", .methodLink RX2 54 yX2_requireMachine, .static yX2_requireMachine, .code yX2_requireMachine cX2_requireMachine 1 none, .classLink RX2 171 "java/lang/IndexOutOfBoundsException", .initialized "java/lang/IndexOutOfBoundsException", .methodLink RX2 189 yX2_isHost, .instanceMethod yX2_isHost, .selects RX2 yX2_isHost yX2_isHost, .code yX2_isHost cX2_isHost 3 (some .boolean)] ++ wsX20 ++ (vx_atS RX2 182 "java/lang/IllegalArgumentException" ["java/lang/RuntimeException", "java/lang/Exception"]).filter goodWord ++ (vx_atS RX2 73 "java/lang/IllegalStateException" ["java/lang/RuntimeException", "java/lang/Exception"]).filter goodWord ++ (vx_atS RX2 175 "java/lang/IndexOutOfBoundsException" ["java/lang/RuntimeException", "java/lang/Exception"]).filter goodWord)
def wsX2_requireProduct : List Cond := .code yX2_requireProduct cX2_requireProduct 1 none :: ([.classLink RX2 171 "java/lang/IndexOutOfBoundsException", .initialized "java/lang/IndexOutOfBoundsException"] ++ (vx_atS RX2 175 "java/lang/IndexOutOfBoundsException" ["java/lang/RuntimeException", "java/lang/Exception"]).filter goodWord)
def wsX2_find : List Cond := .code yX2_find cX2_find 5 (some .int) :: ([.fieldLink RX2 24 "LicenceKeeper" "latestVersions" "[I", .fieldLink RX2 21 "LicenceKeeper" "found" "[[I", .methodLink RX2 54 yX2_requireMachine, .static yX2_requireMachine, .initialized RX2, .code yX2_requireMachine cX2_requireMachine 1 none, .classLink RX2 171 "java/lang/IndexOutOfBoundsException", .initialized "java/lang/IndexOutOfBoundsException", .methodLink RX2 66 yX2_requireProduct, .static yX2_requireProduct, .code yX2_requireProduct cX2_requireProduct 1 none, .methodLink RX2 58 yX2_requireRange, .static yX2_requireRange, .code yX2_requireRange cX2_requireRange 3 none, .classLink RX2 178 "java/lang/IllegalArgumentException", .initialized "java/lang/IllegalArgumentException"] ++ wsX20 ++ (vx_atS RX2 175 "java/lang/IndexOutOfBoundsException" ["java/lang/RuntimeException", "java/lang/Exception"]).filter goodWord ++ (vx_atS RX2 182 "java/lang/IllegalArgumentException" ["java/lang/RuntimeException", "java/lang/Exception"]).filter goodWord)
def wsX2_setPrice : List Cond := .code yX2_setPrice cX2_setPrice 4 (some .int) :: ([.fieldLink RX2 27 "LicenceKeeper" "prices" "[I", .methodLink RX2 66 yX2_requireProduct, .static yX2_requireProduct, .initialized RX2, .code yX2_requireProduct cX2_requireProduct 1 none, .classLink RX2 171 "java/lang/IndexOutOfBoundsException", .initialized "java/lang/IndexOutOfBoundsException", .methodLink RX2 58 yX2_requireRange, .static yX2_requireRange, .code yX2_requireRange cX2_requireRange 3 none, .classLink RX2 178 "java/lang/IllegalArgumentException", .initialized "java/lang/IllegalArgumentException"] ++ wsX20 ++ (vx_atS RX2 175 "java/lang/IndexOutOfBoundsException" ["java/lang/RuntimeException", "java/lang/Exception"]).filter goodWord ++ (vx_atS RX2 182 "java/lang/IllegalArgumentException" ["java/lang/RuntimeException", "java/lang/Exception"]).filter goodWord)
def wsJx4a65c_size_8abf5 : List Cond := .code yJx4a65c_size_8abf5 cJx4a65c_size_8abf5 1 (some .int) :: ([.fieldLink RJx4a65c 48 "java/util/ArrayList" "size" "I"] ++ wsJx4a65c0)
def wsJ3_checkIndex_8e157 : List Cond := .code yJ3_checkIndex_8e157 cJ3_checkIndex_8e157 3 (some .int) :: ([])
def wsJ15_checkIndex_7cf53 : List Cond := .code yJ15_checkIndex_7cf53 cJ15_checkIndex_7cf53 2 (some .int) :: ([.methodLink RJ15 105 yJ3_checkIndex_8e157, .static yJ3_checkIndex_8e157, .initialized RJ3, .code yJ3_checkIndex_8e157 cJ3_checkIndex_8e157 3 (some .int)])
def wsJx4a65c_elementData_915e3 : List Cond := .code yJx4a65c_elementData_915e3 cJx4a65c_elementData_915e3 2 (some (.object "java/lang/Object")) :: ([.fieldLink RJx4a65c 9 "java/util/ArrayList" "elementData" "[Ljava/lang/Object;"] ++ wsJx4a65c0)
def wsJx4a65c_get_915e3 : List Cond := .code yJx4a65c_get_915e3 cJx4a65c_get_915e3 2 (some (.object "java/lang/Object")) :: ([.fieldLink RJx4a65c 48 "java/util/ArrayList" "size" "I", .methodLink RJx4a65c 118 yJ15_checkIndex_7cf53, .static yJ15_checkIndex_7cf53, .initialized RJ15, .code yJ15_checkIndex_7cf53 cJ15_checkIndex_7cf53 2 (some .int), .methodLink RJ15 105 yJ3_checkIndex_8e157, .static yJ3_checkIndex_8e157, .initialized RJ3, .code yJ3_checkIndex_8e157 cJ3_checkIndex_8e157 3 (some .int), .methodLink RJx4a65c 123 yJx4a65c_elementData_915e3, .instanceMethod yJx4a65c_elementData_915e3, .selects RJx4a65c yJx4a65c_elementData_915e3 yJx4a65c_elementData_915e3, .initialized RJx4a65c, .code yJx4a65c_elementData_915e3 cJx4a65c_elementData_915e3 2 (some (.object "java/lang/Object")), .fieldLink RJx4a65c 9 "java/util/ArrayList" "elementData" "[Ljava/lang/Object;"] ++ wsJx4a65c0)
def wsX2_release_r1 : List Cond := [Cond.classLink RX2 69 "java/lang/IllegalStateException", Cond.initialized "java/lang/IllegalStateException", Cond.fieldLink RX2 24 "LicenceKeeper" "latestVersions" "[I", Cond.fieldLink RX2 33 "LicenceKeeper" "held" "Ljava/util/ArrayList;", Cond.classLink RX2 84 "LicenceKeeper$Right", Cond.fieldLink RX2 86 "LicenceKeeper$Right" "product" "I", Cond.fieldLink RX2 89 "LicenceKeeper$Right" "version" "I", Cond.fieldLink RX2 92 "LicenceKeeper$Right" "lastCareDay" "I", Cond.fieldLink RX2 44 "LicenceKeeper" "day" "I", Cond.methodLink RX2 66 yX2_requireProduct, Cond.static yX2_requireProduct, Cond.initialized RX2, Cond.code yX2_requireProduct cX2_requireProduct 1 none, Cond.classLink RX2 171 "java/lang/IndexOutOfBoundsException", Cond.initialized "java/lang/IndexOutOfBoundsException", Cond.methodLink RX2 76 yJx4a65c_size_8abf5, Cond.instanceMethod yJx4a65c_size_8abf5, Cond.selects RJx4a65c yJx4a65c_size_8abf5 yJx4a65c_size_8abf5, Cond.initialized RJx4a65c, Cond.code yJx4a65c_size_8abf5 cJx4a65c_size_8abf5 1 (some .int), Cond.fieldLink RJx4a65c 48 "java/util/ArrayList" "size" "I", Cond.methodLink RX2 80 yJx4a65c_get_915e3, Cond.instanceMethod yJx4a65c_get_915e3, Cond.selects RJx4a65c yJx4a65c_get_915e3 yJx4a65c_get_915e3]
def wsX2_release_r2 : List Cond := [Cond.code yJx4a65c_get_915e3 cJx4a65c_get_915e3 2 (some (.object "java/lang/Object")), Cond.methodLink RJx4a65c 118 yJ15_checkIndex_7cf53, Cond.static yJ15_checkIndex_7cf53, Cond.initialized RJ15, Cond.code yJ15_checkIndex_7cf53 cJ15_checkIndex_7cf53 2 (some .int), Cond.methodLink RJ15 105 yJ3_checkIndex_8e157, Cond.static yJ3_checkIndex_8e157, Cond.initialized RJ3, Cond.code yJ3_checkIndex_8e157 cJ3_checkIndex_8e157 3 (some .int), Cond.methodLink RJx4a65c 123 yJx4a65c_elementData_915e3, Cond.instanceMethod yJx4a65c_elementData_915e3, Cond.selects RJx4a65c yJx4a65c_elementData_915e3 yJx4a65c_elementData_915e3, Cond.code yJx4a65c_elementData_915e3 cJx4a65c_elementData_915e3 2 (some (.object "java/lang/Object")), Cond.fieldLink RJx4a65c 9 "java/util/ArrayList" "elementData" "[Ljava/lang/Object;"]
def wsX2_release : List Cond := .code yX2_release cX2_release 6 (some .int) :: ((wsX2_release_r1 ++ wsX2_release_r2) ++ wsX20 ++ wsX10 ++ wsJx4a65c0 ++ (vx_atS RX2 73 "java/lang/IllegalStateException" ["java/lang/RuntimeException", "java/lang/Exception"]).filter goodWord ++ (vx_atS RX2 175 "java/lang/IndexOutOfBoundsException" ["java/lang/RuntimeException", "java/lang/Exception"]).filter goodWord)
def wsX2_requireRoomForRight : List Cond := .code yX2_requireRoomForRight cX2_requireRoomForRight 1 none :: ([.classLink RX2 69 "java/lang/IllegalStateException", .initialized "java/lang/IllegalStateException", .fieldLink RX2 33 "LicenceKeeper" "held" "Ljava/util/ArrayList;", .methodLink RX2 76 yJx4a65c_size_8abf5, .instanceMethod yJx4a65c_size_8abf5, .selects RJx4a65c yJx4a65c_size_8abf5 yJx4a65c_size_8abf5, .initialized RJx4a65c, .code yJx4a65c_size_8abf5 cJx4a65c_size_8abf5 1 (some .int), .fieldLink RJx4a65c 48 "java/util/ArrayList" "size" "I"] ++ wsX20 ++ wsJx4a65c0 ++ (vx_atS RX2 73 "java/lang/IllegalStateException" ["java/lang/RuntimeException", "java/lang/Exception"]).filter goodWord)
def wsJ8_hugeLength_7cf53 : List Cond := .code yJ8_hugeLength_7cf53 cJ8_hugeLength_7cf53 3 (some .int) :: ([.constant RJ8 200 (2147483639)])
def wsJ8_newLength_cabcc : List Cond := .code yJ8_newLength_cabcc cJ8_newLength_cabcc 4 (some .int) :: ([.methodLink RJ8 194 Lib.Math.max.name, .static Lib.Math.max.name, .initialized "java/lang/Math", .code Lib.Math.max.name Lib.Math.max.code 2 (some .int), .constant RJ8 200 (2147483639), .methodLink RJ8 201 yJ8_hugeLength_7cf53, .static yJ8_hugeLength_7cf53, .initialized RJ8, .code yJ8_hugeLength_7cf53 cJ8_hugeLength_7cf53 3 (some .int)])
def wsJ7_copyOf_6403c : List Cond := .code yJ7_copyOf_6403c cJ7_copyOf_6403c 4 (some (.array (.object "java/lang/Object"))) :: ([.classLink RJ7 110 "[Ljava/lang/Object;", .classLink RJ7 2 "java/lang/Object", .methodLink RJ7 304 Lib.Math.min.name, .static Lib.Math.min.name, .initialized "java/lang/Math", .code Lib.Math.min.name Lib.Math.min.code 2 (some .int), .methodLink RJ7 150 arraycopyName, .native arraycopyName, .static arraycopyName, .initialized "java/lang/System"])
def wsJ7_copyOf_1904c : List Cond := .code yJ7_copyOf_1904c cJ7_copyOf_1904c 2 (some (.array (.object "java/lang/Object"))) :: ([.methodLink RJ7 86 ⟨"java/lang/Object", "getClass", "()Ljava/lang/Class;"⟩, .selects "[Ljava/lang/Object;" ⟨"java/lang/Object", "getClass", "()Ljava/lang/Class;"⟩ ⟨"java/lang/Object", "getClass", "()Ljava/lang/Class;"⟩, .instanceMethod ⟨"java/lang/Object", "getClass", "()Ljava/lang/Class;"⟩, .native ⟨"java/lang/Object", "getClass", "()Ljava/lang/Class;"⟩, .methodLink RJ7 300 yJ7_copyOf_6403c, .static yJ7_copyOf_6403c, .initialized RJ7, .code yJ7_copyOf_6403c cJ7_copyOf_6403c 4 (some (.array (.object "java/lang/Object"))), .classLink RJ7 110 "[Ljava/lang/Object;", .classLink RJ7 2 "java/lang/Object", .methodLink RJ7 304 Lib.Math.min.name, .static Lib.Math.min.name, .initialized "java/lang/Math", .code Lib.Math.min.name Lib.Math.min.code 2 (some .int), .methodLink RJ7 150 arraycopyName, .native arraycopyName, .static arraycopyName, .initialized "java/lang/System"])
def wsJx4a65c_grow_92f84_r1 : List Cond := [Cond.fieldLink RJx4a65c 9 "java/util/ArrayList" "elementData" "[Ljava/lang/Object;", Cond.fieldLink RJx4a65c 39 "java/util/ArrayList" "DEFAULTCAPACITY_EMPTY_ELEMENTDATA" "[Ljava/lang/Object;", Cond.methodLink RJx4a65c 79 Lib.Math.max.name, Cond.static Lib.Math.max.name, Cond.initialized "java/lang/Math", Cond.code Lib.Math.max.name Lib.Math.max.code 2 (some .int), Cond.classLink RJx4a65c 7 "java/lang/Object", Cond.methodLink RJx4a65c 73 yJ8_newLength_cabcc, Cond.static yJ8_newLength_cabcc, Cond.initialized RJ8, Cond.code yJ8_newLength_cabcc cJ8_newLength_cabcc 4 (some .int), Cond.methodLink RJ8 194 Lib.Math.max.name, Cond.constant RJ8 200 (2147483639), Cond.methodLink RJ8 201 yJ8_hugeLength_7cf53, Cond.static yJ8_hugeLength_7cf53, Cond.code yJ8_hugeLength_7cf53 cJ8_hugeLength_7cf53 3 (some .int), Cond.methodLink RJx4a65c 66 yJ7_copyOf_1904c, Cond.static yJ7_copyOf_1904c, Cond.initialized RJ7, Cond.code yJ7_copyOf_1904c cJ7_copyOf_1904c 2 (some (.array (.object "java/lang/Object"))), Cond.methodLink RJ7 86 ⟨"java/lang/Object", "getClass", "()Ljava/lang/Class;"⟩, Cond.selects "[Ljava/lang/Object;" ⟨"java/lang/Object", "getClass", "()Ljava/lang/Class;"⟩ ⟨"java/lang/Object", "getClass", "()Ljava/lang/Class;"⟩, Cond.instanceMethod ⟨"java/lang/Object", "getClass", "()Ljava/lang/Class;"⟩, Cond.native ⟨"java/lang/Object", "getClass", "()Ljava/lang/Class;"⟩]
def wsJx4a65c_grow_92f84_r2 : List Cond := [Cond.methodLink RJ7 300 yJ7_copyOf_6403c, Cond.static yJ7_copyOf_6403c, Cond.code yJ7_copyOf_6403c cJ7_copyOf_6403c 4 (some (.array (.object "java/lang/Object"))), Cond.classLink RJ7 110 "[Ljava/lang/Object;", Cond.classLink RJ7 2 "java/lang/Object", Cond.methodLink RJ7 304 Lib.Math.min.name, Cond.static Lib.Math.min.name, Cond.code Lib.Math.min.name Lib.Math.min.code 2 (some .int), Cond.methodLink RJ7 150 arraycopyName, Cond.native arraycopyName, Cond.static arraycopyName, Cond.initialized "java/lang/System"]
def wsJx4a65c_grow_92f84 : List Cond := .code yJx4a65c_grow_92f84 cJx4a65c_grow_92f84 4 (some (.array (.object "java/lang/Object"))) :: ((wsJx4a65c_grow_92f84_r1 ++ wsJx4a65c_grow_92f84_r2) ++ wsJx4a65c0)
def wsJx4a65c_grow_d5877_r1 : List Cond := [Cond.fieldLink RJx4a65c 48 "java/util/ArrayList" "size" "I", Cond.methodLink RJx4a65c 69 yJx4a65c_grow_92f84, Cond.instanceMethod yJx4a65c_grow_92f84, Cond.selects RJx4a65c yJx4a65c_grow_92f84 yJx4a65c_grow_92f84, Cond.initialized RJx4a65c, Cond.code yJx4a65c_grow_92f84 cJx4a65c_grow_92f84 4 (some (.array (.object "java/lang/Object"))), Cond.fieldLink RJx4a65c 9 "java/util/ArrayList" "elementData" "[Ljava/lang/Object;", Cond.fieldLink RJx4a65c 39 "java/util/ArrayList" "DEFAULTCAPACITY_EMPTY_ELEMENTDATA" "[Ljava/lang/Object;", Cond.methodLink RJx4a65c 79 Lib.Math.max.name, Cond.static Lib.Math.max.name, Cond.initialized "java/lang/Math", Cond.code Lib.Math.max.name Lib.Math.max.code 2 (some .int), Cond.classLink RJx4a65c 7 "java/lang/Object", Cond.methodLink RJx4a65c 73 yJ8_newLength_cabcc, Cond.static yJ8_newLength_cabcc, Cond.initialized RJ8, Cond.code yJ8_newLength_cabcc cJ8_newLength_cabcc 4 (some .int), Cond.methodLink RJ8 194 Lib.Math.max.name, Cond.constant RJ8 200 (2147483639), Cond.methodLink RJ8 201 yJ8_hugeLength_7cf53, Cond.static yJ8_hugeLength_7cf53, Cond.code yJ8_hugeLength_7cf53 cJ8_hugeLength_7cf53 3 (some .int), Cond.methodLink RJx4a65c 66 yJ7_copyOf_1904c, Cond.static yJ7_copyOf_1904c]
def wsJx4a65c_grow_d5877_r2 : List Cond := [Cond.initialized RJ7, Cond.code yJ7_copyOf_1904c cJ7_copyOf_1904c 2 (some (.array (.object "java/lang/Object"))), Cond.methodLink RJ7 86 ⟨"java/lang/Object", "getClass", "()Ljava/lang/Class;"⟩, Cond.selects "[Ljava/lang/Object;" ⟨"java/lang/Object", "getClass", "()Ljava/lang/Class;"⟩ ⟨"java/lang/Object", "getClass", "()Ljava/lang/Class;"⟩, Cond.instanceMethod ⟨"java/lang/Object", "getClass", "()Ljava/lang/Class;"⟩, Cond.native ⟨"java/lang/Object", "getClass", "()Ljava/lang/Class;"⟩, Cond.methodLink RJ7 300 yJ7_copyOf_6403c, Cond.static yJ7_copyOf_6403c, Cond.code yJ7_copyOf_6403c cJ7_copyOf_6403c 4 (some (.array (.object "java/lang/Object"))), Cond.classLink RJ7 110 "[Ljava/lang/Object;", Cond.classLink RJ7 2 "java/lang/Object", Cond.methodLink RJ7 304 Lib.Math.min.name, Cond.static Lib.Math.min.name, Cond.code Lib.Math.min.name Lib.Math.min.code 2 (some .int), Cond.methodLink RJ7 150 arraycopyName, Cond.native arraycopyName, Cond.static arraycopyName, Cond.initialized "java/lang/System"]
def wsJx4a65c_grow_d5877 : List Cond := .code yJx4a65c_grow_d5877 cJx4a65c_grow_d5877 1 (some (.array (.object "java/lang/Object"))) :: ((wsJx4a65c_grow_d5877_r1 ++ wsJx4a65c_grow_d5877_r2) ++ wsJx4a65c0)
def wsJx4a65c_add_72be8_r1 : List Cond := [Cond.fieldLink RJx4a65c 48 "java/util/ArrayList" "size" "I", Cond.methodLink RJx4a65c 129 yJx4a65c_grow_d5877, Cond.instanceMethod yJx4a65c_grow_d5877, Cond.selects RJx4a65c yJx4a65c_grow_d5877 yJx4a65c_grow_d5877, Cond.initialized RJx4a65c, Cond.code yJx4a65c_grow_d5877 cJx4a65c_grow_d5877 1 (some (.array (.object "java/lang/Object"))), Cond.methodLink RJx4a65c 69 yJx4a65c_grow_92f84, Cond.instanceMethod yJx4a65c_grow_92f84, Cond.selects RJx4a65c yJx4a65c_grow_92f84 yJx4a65c_grow_92f84, Cond.code yJx4a65c_grow_92f84 cJx4a65c_grow_92f84 4 (some (.array (.object "java/lang/Object"))), Cond.fieldLink RJx4a65c 9 "java/util/ArrayList" "elementData" "[Ljava/lang/Object;", Cond.fieldLink RJx4a65c 39 "java/util/ArrayList" "DEFAULTCAPACITY_EMPTY_ELEMENTDATA" "[Ljava/lang/Object;", Cond.methodLink RJx4a65c 79 Lib.Math.max.name, Cond.static Lib.Math.max.name, Cond.initialized "java/lang/Math", Cond.code Lib.Math.max.name Lib.Math.max.code 2 (some .int), Cond.classLink RJx4a65c 7 "java/lang/Object", Cond.methodLink RJx4a65c 73 yJ8_newLength_cabcc, Cond.static yJ8_newLength_cabcc, Cond.initialized RJ8, Cond.code yJ8_newLength_cabcc cJ8_newLength_cabcc 4 (some .int), Cond.methodLink RJ8 194 Lib.Math.max.name, Cond.constant RJ8 200 (2147483639), Cond.methodLink RJ8 201 yJ8_hugeLength_7cf53]
def wsJx4a65c_add_72be8_r2 : List Cond := [Cond.static yJ8_hugeLength_7cf53, Cond.code yJ8_hugeLength_7cf53 cJ8_hugeLength_7cf53 3 (some .int), Cond.methodLink RJx4a65c 66 yJ7_copyOf_1904c, Cond.static yJ7_copyOf_1904c, Cond.initialized RJ7, Cond.code yJ7_copyOf_1904c cJ7_copyOf_1904c 2 (some (.array (.object "java/lang/Object"))), Cond.methodLink RJ7 86 ⟨"java/lang/Object", "getClass", "()Ljava/lang/Class;"⟩, Cond.selects "[Ljava/lang/Object;" ⟨"java/lang/Object", "getClass", "()Ljava/lang/Class;"⟩ ⟨"java/lang/Object", "getClass", "()Ljava/lang/Class;"⟩, Cond.instanceMethod ⟨"java/lang/Object", "getClass", "()Ljava/lang/Class;"⟩, Cond.native ⟨"java/lang/Object", "getClass", "()Ljava/lang/Class;"⟩, Cond.methodLink RJ7 300 yJ7_copyOf_6403c, Cond.static yJ7_copyOf_6403c, Cond.code yJ7_copyOf_6403c cJ7_copyOf_6403c 4 (some (.array (.object "java/lang/Object"))), Cond.classLink RJ7 110 "[Ljava/lang/Object;", Cond.classLink RJ7 2 "java/lang/Object", Cond.methodLink RJ7 304 Lib.Math.min.name, Cond.static Lib.Math.min.name, Cond.code Lib.Math.min.name Lib.Math.min.code 2 (some .int), Cond.methodLink RJ7 150 arraycopyName, Cond.native arraycopyName, Cond.static arraycopyName, Cond.initialized "java/lang/System"]
def wsJx4a65c_add_72be8 : List Cond := .code yJx4a65c_add_72be8 cJx4a65c_add_72be8 4 none :: ((wsJx4a65c_add_72be8_r1 ++ wsJx4a65c_add_72be8_r2) ++ wsJx4a65c0)
def wsJx4a65c_add_9ea2d_r1 : List Cond := [Cond.fieldLink RJx4a65c 63 "java/util/ArrayList" "modCount" "I", Cond.sameField "java/util/ArrayList" "java/util/AbstractList" "modCount" "I", Cond.fieldLink RJx4a65c 9 "java/util/ArrayList" "elementData" "[Ljava/lang/Object;", Cond.fieldLink RJx4a65c 48 "java/util/ArrayList" "size" "I", Cond.methodLink RJx4a65c 131 yJx4a65c_add_72be8, Cond.instanceMethod yJx4a65c_add_72be8, Cond.selects RJx4a65c yJx4a65c_add_72be8 yJx4a65c_add_72be8, Cond.initialized RJx4a65c, Cond.code yJx4a65c_add_72be8 cJx4a65c_add_72be8 4 none, Cond.methodLink RJx4a65c 129 yJx4a65c_grow_d5877, Cond.instanceMethod yJx4a65c_grow_d5877, Cond.selects RJx4a65c yJx4a65c_grow_d5877 yJx4a65c_grow_d5877, Cond.code yJx4a65c_grow_d5877 cJx4a65c_grow_d5877 1 (some (.array (.object "java/lang/Object"))), Cond.methodLink RJx4a65c 69 yJx4a65c_grow_92f84, Cond.instanceMethod yJx4a65c_grow_92f84, Cond.selects RJx4a65c yJx4a65c_grow_92f84 yJx4a65c_grow_92f84, Cond.code yJx4a65c_grow_92f84 cJx4a65c_grow_92f84 4 (some (.array (.object "java/lang/Object"))), Cond.fieldLink RJx4a65c 39 "java/util/ArrayList" "DEFAULTCAPACITY_EMPTY_ELEMENTDATA" "[Ljava/lang/Object;", Cond.methodLink RJx4a65c 79 Lib.Math.max.name, Cond.static Lib.Math.max.name, Cond.initialized "java/lang/Math", Cond.code Lib.Math.max.name Lib.Math.max.code 2 (some .int), Cond.classLink RJx4a65c 7 "java/lang/Object", Cond.methodLink RJx4a65c 73 yJ8_newLength_cabcc]
def wsJx4a65c_add_9ea2d_r2 : List Cond := [Cond.static yJ8_newLength_cabcc, Cond.initialized RJ8, Cond.code yJ8_newLength_cabcc cJ8_newLength_cabcc 4 (some .int), Cond.methodLink RJ8 194 Lib.Math.max.name, Cond.constant RJ8 200 (2147483639), Cond.methodLink RJ8 201 yJ8_hugeLength_7cf53, Cond.static yJ8_hugeLength_7cf53, Cond.code yJ8_hugeLength_7cf53 cJ8_hugeLength_7cf53 3 (some .int), Cond.methodLink RJx4a65c 66 yJ7_copyOf_1904c, Cond.static yJ7_copyOf_1904c, Cond.initialized RJ7, Cond.code yJ7_copyOf_1904c cJ7_copyOf_1904c 2 (some (.array (.object "java/lang/Object"))), Cond.methodLink RJ7 86 ⟨"java/lang/Object", "getClass", "()Ljava/lang/Class;"⟩, Cond.selects "[Ljava/lang/Object;" ⟨"java/lang/Object", "getClass", "()Ljava/lang/Class;"⟩ ⟨"java/lang/Object", "getClass", "()Ljava/lang/Class;"⟩, Cond.instanceMethod ⟨"java/lang/Object", "getClass", "()Ljava/lang/Class;"⟩, Cond.native ⟨"java/lang/Object", "getClass", "()Ljava/lang/Class;"⟩, Cond.methodLink RJ7 300 yJ7_copyOf_6403c, Cond.static yJ7_copyOf_6403c, Cond.code yJ7_copyOf_6403c cJ7_copyOf_6403c 4 (some (.array (.object "java/lang/Object"))), Cond.classLink RJ7 110 "[Ljava/lang/Object;", Cond.classLink RJ7 2 "java/lang/Object", Cond.methodLink RJ7 304 Lib.Math.min.name, Cond.static Lib.Math.min.name, Cond.code Lib.Math.min.name Lib.Math.min.code 2 (some .int)]
def wsJx4a65c_add_9ea2d_r3 : List Cond := [Cond.methodLink RJ7 150 arraycopyName, Cond.native arraycopyName, Cond.static arraycopyName, Cond.initialized "java/lang/System"]
def wsJx4a65c_add_9ea2d : List Cond := .code yJx4a65c_add_9ea2d cJx4a65c_add_9ea2d 2 (some .boolean) :: ((wsJx4a65c_add_9ea2d_r1 ++ (wsJx4a65c_add_9ea2d_r2 ++ wsJx4a65c_add_9ea2d_r3)) ++ wsJx4a65c0)
def wsX2_addRight_r1 : List Cond := [Cond.fieldLink RX2 33 "LicenceKeeper" "held" "Ljava/util/ArrayList;", Cond.classLink RX2 84 RX1, Cond.instantiable RX1 6, Cond.initialized RX1, Cond.fieldLink RX2 24 "LicenceKeeper" "latestVersions" "[I", Cond.methodLink RX2 199 yX1_init, Cond.instanceMethod yX1_init, Cond.code yX1_init cX1_init 6 none, Cond.methodLink RX1 1 objectInit, Cond.instanceMethod objectInit, Cond.code objectInit ⟨#[0xb1]⟩ 1 none, Cond.fieldLink RX1 7 "LicenceKeeper$Right" "lent" "I", Cond.fieldLink RX1 13 "LicenceKeeper$Right" "product" "I", Cond.fieldLink RX1 16 "LicenceKeeper$Right" "measure" "I", Cond.fieldLink RX1 19 "LicenceKeeper$Right" "count" "I", Cond.fieldLink RX1 22 "LicenceKeeper$Right" "version" "I", Cond.fieldLink RX1 25 "LicenceKeeper$Right" "lastCareDay" "I", Cond.methodLink RX2 202 yJx4a65c_add_9ea2d, Cond.instanceMethod yJx4a65c_add_9ea2d, Cond.selects RJx4a65c yJx4a65c_add_9ea2d yJx4a65c_add_9ea2d, Cond.initialized RJx4a65c, Cond.code yJx4a65c_add_9ea2d cJx4a65c_add_9ea2d 2 (some .boolean), Cond.fieldLink RJx4a65c 63 "java/util/ArrayList" "modCount" "I", Cond.sameField "java/util/ArrayList" "java/util/AbstractList" "modCount" "I"]
def wsX2_addRight_r2 : List Cond := [Cond.fieldLink RJx4a65c 9 "java/util/ArrayList" "elementData" "[Ljava/lang/Object;", Cond.fieldLink RJx4a65c 48 "java/util/ArrayList" "size" "I", Cond.methodLink RJx4a65c 131 yJx4a65c_add_72be8, Cond.instanceMethod yJx4a65c_add_72be8, Cond.selects RJx4a65c yJx4a65c_add_72be8 yJx4a65c_add_72be8, Cond.code yJx4a65c_add_72be8 cJx4a65c_add_72be8 4 none, Cond.methodLink RJx4a65c 129 yJx4a65c_grow_d5877, Cond.instanceMethod yJx4a65c_grow_d5877, Cond.selects RJx4a65c yJx4a65c_grow_d5877 yJx4a65c_grow_d5877, Cond.code yJx4a65c_grow_d5877 cJx4a65c_grow_d5877 1 (some (.array (.object "java/lang/Object"))), Cond.methodLink RJx4a65c 69 yJx4a65c_grow_92f84, Cond.instanceMethod yJx4a65c_grow_92f84, Cond.selects RJx4a65c yJx4a65c_grow_92f84 yJx4a65c_grow_92f84, Cond.code yJx4a65c_grow_92f84 cJx4a65c_grow_92f84 4 (some (.array (.object "java/lang/Object"))), Cond.fieldLink RJx4a65c 39 "java/util/ArrayList" "DEFAULTCAPACITY_EMPTY_ELEMENTDATA" "[Ljava/lang/Object;", Cond.methodLink RJx4a65c 79 Lib.Math.max.name, Cond.static Lib.Math.max.name, Cond.initialized "java/lang/Math", Cond.code Lib.Math.max.name Lib.Math.max.code 2 (some .int), Cond.classLink RJx4a65c 7 "java/lang/Object", Cond.methodLink RJx4a65c 73 yJ8_newLength_cabcc, Cond.static yJ8_newLength_cabcc, Cond.initialized RJ8, Cond.code yJ8_newLength_cabcc cJ8_newLength_cabcc 4 (some .int)]
def wsX2_addRight_r3 : List Cond := [Cond.methodLink RJ8 194 Lib.Math.max.name, Cond.constant RJ8 200 (2147483639), Cond.methodLink RJ8 201 yJ8_hugeLength_7cf53, Cond.static yJ8_hugeLength_7cf53, Cond.code yJ8_hugeLength_7cf53 cJ8_hugeLength_7cf53 3 (some .int), Cond.methodLink RJx4a65c 66 yJ7_copyOf_1904c, Cond.static yJ7_copyOf_1904c, Cond.initialized RJ7, Cond.code yJ7_copyOf_1904c cJ7_copyOf_1904c 2 (some (.array (.object "java/lang/Object"))), Cond.methodLink RJ7 86 ⟨"java/lang/Object", "getClass", "()Ljava/lang/Class;"⟩, Cond.selects "[Ljava/lang/Object;" ⟨"java/lang/Object", "getClass", "()Ljava/lang/Class;"⟩ ⟨"java/lang/Object", "getClass", "()Ljava/lang/Class;"⟩, Cond.instanceMethod ⟨"java/lang/Object", "getClass", "()Ljava/lang/Class;"⟩, Cond.native ⟨"java/lang/Object", "getClass", "()Ljava/lang/Class;"⟩, Cond.methodLink RJ7 300 yJ7_copyOf_6403c, Cond.static yJ7_copyOf_6403c, Cond.code yJ7_copyOf_6403c cJ7_copyOf_6403c 4 (some (.array (.object "java/lang/Object"))), Cond.classLink RJ7 110 "[Ljava/lang/Object;", Cond.classLink RJ7 2 "java/lang/Object", Cond.methodLink RJ7 304 Lib.Math.min.name, Cond.static Lib.Math.min.name, Cond.code Lib.Math.min.name Lib.Math.min.code 2 (some .int), Cond.methodLink RJ7 150 arraycopyName, Cond.native arraycopyName, Cond.static arraycopyName]
def wsX2_addRight_r4 : List Cond := [Cond.initialized "java/lang/System", Cond.methodLink RX2 76 yJx4a65c_size_8abf5, Cond.instanceMethod yJx4a65c_size_8abf5, Cond.selects RJx4a65c yJx4a65c_size_8abf5 yJx4a65c_size_8abf5, Cond.code yJx4a65c_size_8abf5 cJx4a65c_size_8abf5 1 (some .int)]
def wsX2_addRight : List Cond := .code yX2_addRight cX2_addRight 5 (some .int) :: ((wsX2_addRight_r1 ++ (wsX2_addRight_r2 ++ (wsX2_addRight_r3 ++ wsX2_addRight_r4))) ++ wsX20 ++ wsX10 ++ wsJx4a65c0)
def wsX2_buy_r1 : List Cond := [Cond.fieldLink RX2 44 "LicenceKeeper" "day" "I", Cond.methodLink RX2 66 yX2_requireProduct, Cond.static yX2_requireProduct, Cond.initialized RX2, Cond.code yX2_requireProduct cX2_requireProduct 1 none, Cond.classLink RX2 171 "java/lang/IndexOutOfBoundsException", Cond.initialized "java/lang/IndexOutOfBoundsException", Cond.methodLink RX2 58 yX2_requireRange, Cond.static yX2_requireRange, Cond.code yX2_requireRange cX2_requireRange 3 none, Cond.classLink RX2 178 "java/lang/IllegalArgumentException", Cond.initialized "java/lang/IllegalArgumentException", Cond.methodLink RX2 95 yX2_requireRoomForRight, Cond.instanceMethod yX2_requireRoomForRight, Cond.selects RX2 yX2_requireRoomForRight yX2_requireRoomForRight, Cond.code yX2_requireRoomForRight cX2_requireRoomForRight 1 none, Cond.classLink RX2 69 "java/lang/IllegalStateException", Cond.initialized "java/lang/IllegalStateException", Cond.fieldLink RX2 33 "LicenceKeeper" "held" "Ljava/util/ArrayList;", Cond.methodLink RX2 76 yJx4a65c_size_8abf5, Cond.instanceMethod yJx4a65c_size_8abf5, Cond.selects RJx4a65c yJx4a65c_size_8abf5 yJx4a65c_size_8abf5, Cond.initialized RJx4a65c, Cond.code yJx4a65c_size_8abf5 cJx4a65c_size_8abf5 1 (some .int)]
def wsX2_buy_r2 : List Cond := [Cond.fieldLink RJx4a65c 48 "java/util/ArrayList" "size" "I", Cond.methodLink RX2 98 yX2_addRight, Cond.instanceMethod yX2_addRight, Cond.selects RX2 yX2_addRight yX2_addRight, Cond.code yX2_addRight cX2_addRight 5 (some .int), Cond.classLink RX2 84 RX1, Cond.instantiable RX1 6, Cond.initialized RX1, Cond.fieldLink RX2 24 "LicenceKeeper" "latestVersions" "[I", Cond.methodLink RX2 199 yX1_init, Cond.instanceMethod yX1_init, Cond.code yX1_init cX1_init 6 none, Cond.methodLink RX1 1 objectInit, Cond.instanceMethod objectInit, Cond.code objectInit ⟨#[0xb1]⟩ 1 none, Cond.fieldLink RX1 7 "LicenceKeeper$Right" "lent" "I", Cond.fieldLink RX1 13 "LicenceKeeper$Right" "product" "I", Cond.fieldLink RX1 16 "LicenceKeeper$Right" "measure" "I", Cond.fieldLink RX1 19 "LicenceKeeper$Right" "count" "I", Cond.fieldLink RX1 22 "LicenceKeeper$Right" "version" "I", Cond.fieldLink RX1 25 "LicenceKeeper$Right" "lastCareDay" "I", Cond.methodLink RX2 202 yJx4a65c_add_9ea2d, Cond.instanceMethod yJx4a65c_add_9ea2d, Cond.selects RJx4a65c yJx4a65c_add_9ea2d yJx4a65c_add_9ea2d]
def wsX2_buy_r3 : List Cond := [Cond.code yJx4a65c_add_9ea2d cJx4a65c_add_9ea2d 2 (some .boolean), Cond.fieldLink RJx4a65c 63 "java/util/ArrayList" "modCount" "I", Cond.sameField "java/util/ArrayList" "java/util/AbstractList" "modCount" "I", Cond.fieldLink RJx4a65c 9 "java/util/ArrayList" "elementData" "[Ljava/lang/Object;", Cond.methodLink RJx4a65c 131 yJx4a65c_add_72be8, Cond.instanceMethod yJx4a65c_add_72be8, Cond.selects RJx4a65c yJx4a65c_add_72be8 yJx4a65c_add_72be8, Cond.code yJx4a65c_add_72be8 cJx4a65c_add_72be8 4 none, Cond.methodLink RJx4a65c 129 yJx4a65c_grow_d5877, Cond.instanceMethod yJx4a65c_grow_d5877, Cond.selects RJx4a65c yJx4a65c_grow_d5877 yJx4a65c_grow_d5877, Cond.code yJx4a65c_grow_d5877 cJx4a65c_grow_d5877 1 (some (.array (.object "java/lang/Object"))), Cond.methodLink RJx4a65c 69 yJx4a65c_grow_92f84, Cond.instanceMethod yJx4a65c_grow_92f84, Cond.selects RJx4a65c yJx4a65c_grow_92f84 yJx4a65c_grow_92f84, Cond.code yJx4a65c_grow_92f84 cJx4a65c_grow_92f84 4 (some (.array (.object "java/lang/Object"))), Cond.fieldLink RJx4a65c 39 "java/util/ArrayList" "DEFAULTCAPACITY_EMPTY_ELEMENTDATA" "[Ljava/lang/Object;", Cond.methodLink RJx4a65c 79 Lib.Math.max.name, Cond.static Lib.Math.max.name, Cond.initialized "java/lang/Math", Cond.code Lib.Math.max.name Lib.Math.max.code 2 (some .int), Cond.classLink RJx4a65c 7 "java/lang/Object", Cond.methodLink RJx4a65c 73 yJ8_newLength_cabcc, Cond.static yJ8_newLength_cabcc]
def wsX2_buy_r4 : List Cond := [Cond.initialized RJ8, Cond.code yJ8_newLength_cabcc cJ8_newLength_cabcc 4 (some .int), Cond.methodLink RJ8 194 Lib.Math.max.name, Cond.constant RJ8 200 (2147483639), Cond.methodLink RJ8 201 yJ8_hugeLength_7cf53, Cond.static yJ8_hugeLength_7cf53, Cond.code yJ8_hugeLength_7cf53 cJ8_hugeLength_7cf53 3 (some .int), Cond.methodLink RJx4a65c 66 yJ7_copyOf_1904c, Cond.static yJ7_copyOf_1904c, Cond.initialized RJ7, Cond.code yJ7_copyOf_1904c cJ7_copyOf_1904c 2 (some (.array (.object "java/lang/Object"))), Cond.methodLink RJ7 86 ⟨"java/lang/Object", "getClass", "()Ljava/lang/Class;"⟩, Cond.selects "[Ljava/lang/Object;" ⟨"java/lang/Object", "getClass", "()Ljava/lang/Class;"⟩ ⟨"java/lang/Object", "getClass", "()Ljava/lang/Class;"⟩, Cond.instanceMethod ⟨"java/lang/Object", "getClass", "()Ljava/lang/Class;"⟩, Cond.native ⟨"java/lang/Object", "getClass", "()Ljava/lang/Class;"⟩, Cond.methodLink RJ7 300 yJ7_copyOf_6403c, Cond.static yJ7_copyOf_6403c, Cond.code yJ7_copyOf_6403c cJ7_copyOf_6403c 4 (some (.array (.object "java/lang/Object"))), Cond.classLink RJ7 110 "[Ljava/lang/Object;", Cond.classLink RJ7 2 "java/lang/Object", Cond.methodLink RJ7 304 Lib.Math.min.name, Cond.static Lib.Math.min.name, Cond.code Lib.Math.min.name Lib.Math.min.code 2 (some .int), Cond.methodLink RJ7 150 arraycopyName]
def wsX2_buy_r5 : List Cond := [Cond.native arraycopyName, Cond.static arraycopyName, Cond.initialized "java/lang/System"]
def wsX2_buy : List Cond := .code yX2_buy cX2_buy 5 (some .int) :: ((wsX2_buy_r1 ++ (wsX2_buy_r2 ++ (wsX2_buy_r3 ++ (wsX2_buy_r4 ++ wsX2_buy_r5)))) ++ wsX20 ++ wsJx4a65c0 ++ wsX10 ++ (vx_atS RX2 175 "java/lang/IndexOutOfBoundsException" ["java/lang/RuntimeException", "java/lang/Exception"]).filter goodWord ++ (vx_atS RX2 182 "java/lang/IllegalArgumentException" ["java/lang/RuntimeException", "java/lang/Exception"]).filter goodWord ++ (vx_atS RX2 73 "java/lang/IllegalStateException" ["java/lang/RuntimeException", "java/lang/Exception"]).filter goodWord)
def wsX2_rightAt_r1 : List Cond := [Cond.classLink RX2 171 "java/lang/IndexOutOfBoundsException", Cond.initialized "java/lang/IndexOutOfBoundsException", Cond.fieldLink RX2 33 "LicenceKeeper" "held" "Ljava/util/ArrayList;", Cond.classLink RX2 84 "LicenceKeeper$Right", Cond.methodLink RX2 76 yJx4a65c_size_8abf5, Cond.instanceMethod yJx4a65c_size_8abf5, Cond.selects RJx4a65c yJx4a65c_size_8abf5 yJx4a65c_size_8abf5, Cond.initialized RJx4a65c, Cond.code yJx4a65c_size_8abf5 cJx4a65c_size_8abf5 1 (some .int), Cond.fieldLink RJx4a65c 48 "java/util/ArrayList" "size" "I", Cond.methodLink RX2 80 yJx4a65c_get_915e3, Cond.instanceMethod yJx4a65c_get_915e3, Cond.selects RJx4a65c yJx4a65c_get_915e3 yJx4a65c_get_915e3, Cond.code yJx4a65c_get_915e3 cJx4a65c_get_915e3 2 (some (.object "java/lang/Object")), Cond.methodLink RJx4a65c 118 yJ15_checkIndex_7cf53, Cond.static yJ15_checkIndex_7cf53, Cond.initialized RJ15, Cond.code yJ15_checkIndex_7cf53 cJ15_checkIndex_7cf53 2 (some .int), Cond.methodLink RJ15 105 yJ3_checkIndex_8e157, Cond.static yJ3_checkIndex_8e157, Cond.initialized RJ3, Cond.code yJ3_checkIndex_8e157 cJ3_checkIndex_8e157 3 (some .int), Cond.methodLink RJx4a65c 123 yJx4a65c_elementData_915e3, Cond.instanceMethod yJx4a65c_elementData_915e3]
def wsX2_rightAt_r2 : List Cond := [Cond.selects RJx4a65c yJx4a65c_elementData_915e3 yJx4a65c_elementData_915e3, Cond.code yJx4a65c_elementData_915e3 cJx4a65c_elementData_915e3 2 (some (.object "java/lang/Object")), Cond.fieldLink RJx4a65c 9 "java/util/ArrayList" "elementData" "[Ljava/lang/Object;"]
def wsX2_rightAt : List Cond := .code yX2_rightAt cX2_rightAt 2 (some (.object "LicenceKeeper$Right")) :: ((wsX2_rightAt_r1 ++ wsX2_rightAt_r2) ++ wsX20 ++ wsJx4a65c0 ++ (vx_atS RX2 175 "java/lang/IndexOutOfBoundsException" ["java/lang/RuntimeException", "java/lang/Exception"]).filter goodWord)
def wsX2_requireCount : List Cond := .code yX2_requireCount cX2_requireCount 2 none :: ([.classLink RX2 69 "java/lang/IllegalStateException", .initialized "java/lang/IllegalStateException", .fieldLink RX2 112 "LicenceKeeper$Right" "count" "I"] ++ wsX10 ++ (vx_atS RX2 73 "java/lang/IllegalStateException" ["java/lang/RuntimeException", "java/lang/Exception"]).filter goodWord)
def wsX2_upgrade_r1 : List Cond := [Cond.classLink RX2 69 "java/lang/IllegalStateException", Cond.initialized "java/lang/IllegalStateException", Cond.fieldLink RX2 89 "LicenceKeeper$Right" "version" "I", Cond.fieldLink RX2 24 "LicenceKeeper" "latestVersions" "[I", Cond.fieldLink RX2 86 "LicenceKeeper$Right" "product" "I", Cond.fieldLink RX2 112 "LicenceKeeper$Right" "count" "I", Cond.fieldLink RX2 115 "LicenceKeeper$Right" "measure" "I", Cond.fieldLink RX2 92 "LicenceKeeper$Right" "lastCareDay" "I", Cond.methodLink RX2 102 yX2_rightAt, Cond.instanceMethod yX2_rightAt, Cond.selects RX2 yX2_rightAt yX2_rightAt, Cond.initialized RX2, Cond.code yX2_rightAt cX2_rightAt 2 (some (.object "LicenceKeeper$Right")), Cond.classLink RX2 171 "java/lang/IndexOutOfBoundsException", Cond.initialized "java/lang/IndexOutOfBoundsException", Cond.fieldLink RX2 33 "LicenceKeeper" "held" "Ljava/util/ArrayList;", Cond.classLink RX2 84 "LicenceKeeper$Right", Cond.methodLink RX2 76 yJx4a65c_size_8abf5, Cond.instanceMethod yJx4a65c_size_8abf5, Cond.selects RJx4a65c yJx4a65c_size_8abf5 yJx4a65c_size_8abf5, Cond.initialized RJx4a65c, Cond.code yJx4a65c_size_8abf5 cJx4a65c_size_8abf5 1 (some .int), Cond.fieldLink RJx4a65c 48 "java/util/ArrayList" "size" "I", Cond.methodLink RX2 80 yJx4a65c_get_915e3]
def wsX2_upgrade_r2 : List Cond := [Cond.instanceMethod yJx4a65c_get_915e3, Cond.selects RJx4a65c yJx4a65c_get_915e3 yJx4a65c_get_915e3, Cond.code yJx4a65c_get_915e3 cJx4a65c_get_915e3 2 (some (.object "java/lang/Object")), Cond.methodLink RJx4a65c 118 yJ15_checkIndex_7cf53, Cond.static yJ15_checkIndex_7cf53, Cond.initialized RJ15, Cond.code yJ15_checkIndex_7cf53 cJ15_checkIndex_7cf53 2 (some .int), Cond.methodLink RJ15 105 yJ3_checkIndex_8e157, Cond.static yJ3_checkIndex_8e157, Cond.initialized RJ3, Cond.code yJ3_checkIndex_8e157 cJ3_checkIndex_8e157 3 (some .int), Cond.methodLink RJx4a65c 123 yJx4a65c_elementData_915e3, Cond.instanceMethod yJx4a65c_elementData_915e3, Cond.selects RJx4a65c yJx4a65c_elementData_915e3 yJx4a65c_elementData_915e3, Cond.code yJx4a65c_elementData_915e3 cJx4a65c_elementData_915e3 2 (some (.object "java/lang/Object")), Cond.fieldLink RJx4a65c 9 "java/util/ArrayList" "elementData" "[Ljava/lang/Object;", Cond.methodLink RX2 58 yX2_requireRange, Cond.static yX2_requireRange, Cond.code yX2_requireRange cX2_requireRange 3 none, Cond.classLink RX2 178 "java/lang/IllegalArgumentException", Cond.initialized "java/lang/IllegalArgumentException", Cond.methodLink RX2 106 yX2_requireCount, Cond.static yX2_requireCount, Cond.code yX2_requireCount cX2_requireCount 2 none]
def wsX2_upgrade_r3 : List Cond := [Cond.methodLink RX2 95 yX2_requireRoomForRight, Cond.instanceMethod yX2_requireRoomForRight, Cond.selects RX2 yX2_requireRoomForRight yX2_requireRoomForRight, Cond.code yX2_requireRoomForRight cX2_requireRoomForRight 1 none, Cond.methodLink RX2 98 yX2_addRight, Cond.instanceMethod yX2_addRight, Cond.selects RX2 yX2_addRight yX2_addRight, Cond.code yX2_addRight cX2_addRight 5 (some .int), Cond.classLink RX2 84 RX1, Cond.instantiable RX1 6, Cond.initialized RX1, Cond.methodLink RX2 199 yX1_init, Cond.instanceMethod yX1_init, Cond.code yX1_init cX1_init 6 none, Cond.methodLink RX1 1 objectInit, Cond.instanceMethod objectInit, Cond.code objectInit ⟨#[0xb1]⟩ 1 none, Cond.fieldLink RX1 7 "LicenceKeeper$Right" "lent" "I", Cond.fieldLink RX1 13 "LicenceKeeper$Right" "product" "I", Cond.fieldLink RX1 16 "LicenceKeeper$Right" "measure" "I", Cond.fieldLink RX1 19 "LicenceKeeper$Right" "count" "I", Cond.fieldLink RX1 22 "LicenceKeeper$Right" "version" "I", Cond.fieldLink RX1 25 "LicenceKeeper$Right" "lastCareDay" "I", Cond.methodLink RX2 202 yJx4a65c_add_9ea2d]
def wsX2_upgrade_r4 : List Cond := [Cond.instanceMethod yJx4a65c_add_9ea2d, Cond.selects RJx4a65c yJx4a65c_add_9ea2d yJx4a65c_add_9ea2d, Cond.code yJx4a65c_add_9ea2d cJx4a65c_add_9ea2d 2 (some .boolean), Cond.fieldLink RJx4a65c 63 "java/util/ArrayList" "modCount" "I", Cond.sameField "java/util/ArrayList" "java/util/AbstractList" "modCount" "I", Cond.methodLink RJx4a65c 131 yJx4a65c_add_72be8, Cond.instanceMethod yJx4a65c_add_72be8, Cond.selects RJx4a65c yJx4a65c_add_72be8 yJx4a65c_add_72be8, Cond.code yJx4a65c_add_72be8 cJx4a65c_add_72be8 4 none, Cond.methodLink RJx4a65c 129 yJx4a65c_grow_d5877, Cond.instanceMethod yJx4a65c_grow_d5877, Cond.selects RJx4a65c yJx4a65c_grow_d5877 yJx4a65c_grow_d5877, Cond.code yJx4a65c_grow_d5877 cJx4a65c_grow_d5877 1 (some (.array (.object "java/lang/Object"))), Cond.methodLink RJx4a65c 69 yJx4a65c_grow_92f84, Cond.instanceMethod yJx4a65c_grow_92f84, Cond.selects RJx4a65c yJx4a65c_grow_92f84 yJx4a65c_grow_92f84, Cond.code yJx4a65c_grow_92f84 cJx4a65c_grow_92f84 4 (some (.array (.object "java/lang/Object"))), Cond.fieldLink RJx4a65c 39 "java/util/ArrayList" "DEFAULTCAPACITY_EMPTY_ELEMENTDATA" "[Ljava/lang/Object;", Cond.methodLink RJx4a65c 79 Lib.Math.max.name, Cond.static Lib.Math.max.name, Cond.initialized "java/lang/Math", Cond.code Lib.Math.max.name Lib.Math.max.code 2 (some .int), Cond.classLink RJx4a65c 7 "java/lang/Object", Cond.methodLink RJx4a65c 73 yJ8_newLength_cabcc]
def wsX2_upgrade_r5 : List Cond := [Cond.static yJ8_newLength_cabcc, Cond.initialized RJ8, Cond.code yJ8_newLength_cabcc cJ8_newLength_cabcc 4 (some .int), Cond.methodLink RJ8 194 Lib.Math.max.name, Cond.constant RJ8 200 (2147483639), Cond.methodLink RJ8 201 yJ8_hugeLength_7cf53, Cond.static yJ8_hugeLength_7cf53, Cond.code yJ8_hugeLength_7cf53 cJ8_hugeLength_7cf53 3 (some .int), Cond.methodLink RJx4a65c 66 yJ7_copyOf_1904c, Cond.static yJ7_copyOf_1904c, Cond.initialized RJ7, Cond.code yJ7_copyOf_1904c cJ7_copyOf_1904c 2 (some (.array (.object "java/lang/Object"))), Cond.methodLink RJ7 86 ⟨"java/lang/Object", "getClass", "()Ljava/lang/Class;"⟩, Cond.selects "[Ljava/lang/Object;" ⟨"java/lang/Object", "getClass", "()Ljava/lang/Class;"⟩ ⟨"java/lang/Object", "getClass", "()Ljava/lang/Class;"⟩, Cond.instanceMethod ⟨"java/lang/Object", "getClass", "()Ljava/lang/Class;"⟩, Cond.native ⟨"java/lang/Object", "getClass", "()Ljava/lang/Class;"⟩, Cond.methodLink RJ7 300 yJ7_copyOf_6403c, Cond.static yJ7_copyOf_6403c, Cond.code yJ7_copyOf_6403c cJ7_copyOf_6403c 4 (some (.array (.object "java/lang/Object"))), Cond.classLink RJ7 110 "[Ljava/lang/Object;", Cond.classLink RJ7 2 "java/lang/Object", Cond.methodLink RJ7 304 Lib.Math.min.name, Cond.static Lib.Math.min.name, Cond.code Lib.Math.min.name Lib.Math.min.code 2 (some .int)]
def wsX2_upgrade_r6 : List Cond := [Cond.methodLink RJ7 150 arraycopyName, Cond.native arraycopyName, Cond.static arraycopyName, Cond.initialized "java/lang/System"]
def wsX2_upgrade : List Cond := .code yX2_upgrade cX2_upgrade 4 (some .int) :: ((wsX2_upgrade_r1 ++ (wsX2_upgrade_r2 ++ (wsX2_upgrade_r3 ++ (wsX2_upgrade_r4 ++ (wsX2_upgrade_r5 ++ wsX2_upgrade_r6))))) ++ wsX10 ++ wsX20 ++ wsJx4a65c0 ++ (vx_atS RX2 73 "java/lang/IllegalStateException" ["java/lang/RuntimeException", "java/lang/Exception"]).filter goodWord ++ (vx_atS RX2 175 "java/lang/IndexOutOfBoundsException" ["java/lang/RuntimeException", "java/lang/Exception"]).filter goodWord ++ (vx_atS RX2 182 "java/lang/IllegalArgumentException" ["java/lang/RuntimeException", "java/lang/Exception"]).filter goodWord)
def wsX2_lend_r1 : List Cond := [Cond.classLink RX2 69 "java/lang/IllegalStateException", Cond.initialized "java/lang/IllegalStateException", Cond.fieldLink RX2 118 "LicenceKeeper$Right" "lent" "I", Cond.fieldLink RX2 112 "LicenceKeeper$Right" "count" "I", Cond.methodLink RX2 102 yX2_rightAt, Cond.instanceMethod yX2_rightAt, Cond.selects RX2 yX2_rightAt yX2_rightAt, Cond.initialized RX2, Cond.code yX2_rightAt cX2_rightAt 2 (some (.object "LicenceKeeper$Right")), Cond.classLink RX2 171 "java/lang/IndexOutOfBoundsException", Cond.initialized "java/lang/IndexOutOfBoundsException", Cond.fieldLink RX2 33 "LicenceKeeper" "held" "Ljava/util/ArrayList;", Cond.classLink RX2 84 "LicenceKeeper$Right", Cond.methodLink RX2 76 yJx4a65c_size_8abf5, Cond.instanceMethod yJx4a65c_size_8abf5, Cond.selects RJx4a65c yJx4a65c_size_8abf5 yJx4a65c_size_8abf5, Cond.initialized RJx4a65c, Cond.code yJx4a65c_size_8abf5 cJx4a65c_size_8abf5 1 (some .int), Cond.fieldLink RJx4a65c 48 "java/util/ArrayList" "size" "I", Cond.methodLink RX2 80 yJx4a65c_get_915e3, Cond.instanceMethod yJx4a65c_get_915e3, Cond.selects RJx4a65c yJx4a65c_get_915e3 yJx4a65c_get_915e3, Cond.code yJx4a65c_get_915e3 cJx4a65c_get_915e3 2 (some (.object "java/lang/Object")), Cond.methodLink RJx4a65c 118 yJ15_checkIndex_7cf53]
def wsX2_lend_r2 : List Cond := [Cond.static yJ15_checkIndex_7cf53, Cond.initialized RJ15, Cond.code yJ15_checkIndex_7cf53 cJ15_checkIndex_7cf53 2 (some .int), Cond.methodLink RJ15 105 yJ3_checkIndex_8e157, Cond.static yJ3_checkIndex_8e157, Cond.initialized RJ3, Cond.code yJ3_checkIndex_8e157 cJ3_checkIndex_8e157 3 (some .int), Cond.methodLink RJx4a65c 123 yJx4a65c_elementData_915e3, Cond.instanceMethod yJx4a65c_elementData_915e3, Cond.selects RJx4a65c yJx4a65c_elementData_915e3 yJx4a65c_elementData_915e3, Cond.code yJx4a65c_elementData_915e3 cJx4a65c_elementData_915e3 2 (some (.object "java/lang/Object")), Cond.fieldLink RJx4a65c 9 "java/util/ArrayList" "elementData" "[Ljava/lang/Object;", Cond.methodLink RX2 58 yX2_requireRange, Cond.static yX2_requireRange, Cond.code yX2_requireRange cX2_requireRange 3 none, Cond.classLink RX2 178 "java/lang/IllegalArgumentException", Cond.initialized "java/lang/IllegalArgumentException", Cond.methodLink RX2 106 yX2_requireCount, Cond.static yX2_requireCount, Cond.code yX2_requireCount cX2_requireCount 2 none]
def wsX2_lend : List Cond := .code yX2_lend cX2_lend 4 (some .int) :: ((wsX2_lend_r1 ++ wsX2_lend_r2) ++ wsX10 ++ wsX20 ++ wsJx4a65c0 ++ (vx_atS RX2 73 "java/lang/IllegalStateException" ["java/lang/RuntimeException", "java/lang/Exception"]).filter goodWord ++ (vx_atS RX2 175 "java/lang/IndexOutOfBoundsException" ["java/lang/RuntimeException", "java/lang/Exception"]).filter goodWord ++ (vx_atS RX2 182 "java/lang/IllegalArgumentException" ["java/lang/RuntimeException", "java/lang/Exception"]).filter goodWord)
def wsX2_pass : List Cond := .code yX2_pass cX2_pass 2 (some .int) :: ([.fieldLink RX2 44 "LicenceKeeper" "day" "I", .methodLink RX2 58 yX2_requireRange, .static yX2_requireRange, .initialized RX2, .code yX2_requireRange cX2_requireRange 3 none, .classLink RX2 178 "java/lang/IllegalArgumentException", .initialized "java/lang/IllegalArgumentException"] ++ wsX20 ++ (vx_atS RX2 182 "java/lang/IllegalArgumentException" ["java/lang/RuntimeException", "java/lang/Exception"]).filter goodWord)
def wsX2_today : List Cond := .code yX2_today cX2_today 1 (some .int) :: ([.fieldLink RX2 44 "LicenceKeeper" "day" "I"] ++ wsX20)
def wsX2_rights : List Cond := .code yX2_rights cX2_rights 1 (some .int) :: ([.fieldLink RX2 33 "LicenceKeeper" "held" "Ljava/util/ArrayList;", .methodLink RX2 76 yJx4a65c_size_8abf5, .instanceMethod yJx4a65c_size_8abf5, .selects RJx4a65c yJx4a65c_size_8abf5 yJx4a65c_size_8abf5, .initialized RJx4a65c, .code yJx4a65c_size_8abf5 cJx4a65c_size_8abf5 1 (some .int), .fieldLink RJx4a65c 48 "java/util/ArrayList" "size" "I"] ++ wsX20 ++ wsJx4a65c0)
def wsX2_countOf_r1 : List Cond := [Cond.fieldLink RX2 112 "LicenceKeeper$Right" "count" "I", Cond.methodLink RX2 102 yX2_rightAt, Cond.instanceMethod yX2_rightAt, Cond.selects RX2 yX2_rightAt yX2_rightAt, Cond.initialized RX2, Cond.code yX2_rightAt cX2_rightAt 2 (some (.object "LicenceKeeper$Right")), Cond.classLink RX2 171 "java/lang/IndexOutOfBoundsException", Cond.initialized "java/lang/IndexOutOfBoundsException", Cond.fieldLink RX2 33 "LicenceKeeper" "held" "Ljava/util/ArrayList;", Cond.classLink RX2 84 "LicenceKeeper$Right", Cond.methodLink RX2 76 yJx4a65c_size_8abf5, Cond.instanceMethod yJx4a65c_size_8abf5, Cond.selects RJx4a65c yJx4a65c_size_8abf5 yJx4a65c_size_8abf5, Cond.initialized RJx4a65c, Cond.code yJx4a65c_size_8abf5 cJx4a65c_size_8abf5 1 (some .int), Cond.fieldLink RJx4a65c 48 "java/util/ArrayList" "size" "I", Cond.methodLink RX2 80 yJx4a65c_get_915e3, Cond.instanceMethod yJx4a65c_get_915e3, Cond.selects RJx4a65c yJx4a65c_get_915e3 yJx4a65c_get_915e3, Cond.code yJx4a65c_get_915e3 cJx4a65c_get_915e3 2 (some (.object "java/lang/Object")), Cond.methodLink RJx4a65c 118 yJ15_checkIndex_7cf53, Cond.static yJ15_checkIndex_7cf53, Cond.initialized RJ15, Cond.code yJ15_checkIndex_7cf53 cJ15_checkIndex_7cf53 2 (some .int)]
def wsX2_countOf_r2 : List Cond := [Cond.methodLink RJ15 105 yJ3_checkIndex_8e157, Cond.static yJ3_checkIndex_8e157, Cond.initialized RJ3, Cond.code yJ3_checkIndex_8e157 cJ3_checkIndex_8e157 3 (some .int), Cond.methodLink RJx4a65c 123 yJx4a65c_elementData_915e3, Cond.instanceMethod yJx4a65c_elementData_915e3, Cond.selects RJx4a65c yJx4a65c_elementData_915e3 yJx4a65c_elementData_915e3, Cond.code yJx4a65c_elementData_915e3 cJx4a65c_elementData_915e3 2 (some (.object "java/lang/Object")), Cond.fieldLink RJx4a65c 9 "java/util/ArrayList" "elementData" "[Ljava/lang/Object;"]
def wsX2_countOf : List Cond := .code yX2_countOf cX2_countOf 2 (some .int) :: ((wsX2_countOf_r1 ++ wsX2_countOf_r2) ++ wsX10 ++ wsX20 ++ wsJx4a65c0 ++ (vx_atS RX2 175 "java/lang/IndexOutOfBoundsException" ["java/lang/RuntimeException", "java/lang/Exception"]).filter goodWord)
def wsX2_versionOf_r1 : List Cond := [Cond.fieldLink RX2 89 "LicenceKeeper$Right" "version" "I", Cond.methodLink RX2 102 yX2_rightAt, Cond.instanceMethod yX2_rightAt, Cond.selects RX2 yX2_rightAt yX2_rightAt, Cond.initialized RX2, Cond.code yX2_rightAt cX2_rightAt 2 (some (.object "LicenceKeeper$Right")), Cond.classLink RX2 171 "java/lang/IndexOutOfBoundsException", Cond.initialized "java/lang/IndexOutOfBoundsException", Cond.fieldLink RX2 33 "LicenceKeeper" "held" "Ljava/util/ArrayList;", Cond.classLink RX2 84 "LicenceKeeper$Right", Cond.methodLink RX2 76 yJx4a65c_size_8abf5, Cond.instanceMethod yJx4a65c_size_8abf5, Cond.selects RJx4a65c yJx4a65c_size_8abf5 yJx4a65c_size_8abf5, Cond.initialized RJx4a65c, Cond.code yJx4a65c_size_8abf5 cJx4a65c_size_8abf5 1 (some .int), Cond.fieldLink RJx4a65c 48 "java/util/ArrayList" "size" "I", Cond.methodLink RX2 80 yJx4a65c_get_915e3, Cond.instanceMethod yJx4a65c_get_915e3, Cond.selects RJx4a65c yJx4a65c_get_915e3 yJx4a65c_get_915e3, Cond.code yJx4a65c_get_915e3 cJx4a65c_get_915e3 2 (some (.object "java/lang/Object")), Cond.methodLink RJx4a65c 118 yJ15_checkIndex_7cf53, Cond.static yJ15_checkIndex_7cf53, Cond.initialized RJ15, Cond.code yJ15_checkIndex_7cf53 cJ15_checkIndex_7cf53 2 (some .int)]
def wsX2_versionOf_r2 : List Cond := [Cond.methodLink RJ15 105 yJ3_checkIndex_8e157, Cond.static yJ3_checkIndex_8e157, Cond.initialized RJ3, Cond.code yJ3_checkIndex_8e157 cJ3_checkIndex_8e157 3 (some .int), Cond.methodLink RJx4a65c 123 yJx4a65c_elementData_915e3, Cond.instanceMethod yJx4a65c_elementData_915e3, Cond.selects RJx4a65c yJx4a65c_elementData_915e3 yJx4a65c_elementData_915e3, Cond.code yJx4a65c_elementData_915e3 cJx4a65c_elementData_915e3 2 (some (.object "java/lang/Object")), Cond.fieldLink RJx4a65c 9 "java/util/ArrayList" "elementData" "[Ljava/lang/Object;"]
def wsX2_versionOf : List Cond := .code yX2_versionOf cX2_versionOf 2 (some .int) :: ((wsX2_versionOf_r1 ++ wsX2_versionOf_r2) ++ wsX10 ++ wsX20 ++ wsJx4a65c0 ++ (vx_atS RX2 175 "java/lang/IndexOutOfBoundsException" ["java/lang/RuntimeException", "java/lang/Exception"]).filter goodWord)
def wsX2_latest : List Cond := .code yX2_latest cX2_latest 2 (some .int) :: ([.fieldLink RX2 24 "LicenceKeeper" "latestVersions" "[I", .methodLink RX2 66 yX2_requireProduct, .static yX2_requireProduct, .initialized RX2, .code yX2_requireProduct cX2_requireProduct 1 none, .classLink RX2 171 "java/lang/IndexOutOfBoundsException", .initialized "java/lang/IndexOutOfBoundsException"] ++ wsX20 ++ (vx_atS RX2 175 "java/lang/IndexOutOfBoundsException" ["java/lang/RuntimeException", "java/lang/Exception"]).filter goodWord)
def wsX2_hostOf : List Cond := .code yX2_hostOf cX2_hostOf 2 (some .int) :: ([.fieldLink RX2 13 "LicenceKeeper" "hosts" "[I", .methodLink RX2 54 yX2_requireMachine, .static yX2_requireMachine, .initialized RX2, .code yX2_requireMachine cX2_requireMachine 1 none, .classLink RX2 171 "java/lang/IndexOutOfBoundsException", .initialized "java/lang/IndexOutOfBoundsException"] ++ wsX20 ++ (vx_atS RX2 175 "java/lang/IndexOutOfBoundsException" ["java/lang/RuntimeException", "java/lang/Exception"]).filter goodWord)
def wsX2_weightOn : List Cond := .code yX2_weightOn cX2_weightOn 3 (some .int) :: ([.fieldLink RX2 21 "LicenceKeeper" "found" "[[I", .fieldLink RX2 9 "LicenceKeeper" "cores" "[I", .fieldLink RX2 27 "LicenceKeeper" "prices" "[I"] ++ wsX20)
def wsX2_weight : List Cond := .code yX2_weight cX2_weight 3 (some .int) :: ([.methodLink RX2 54 yX2_requireMachine, .static yX2_requireMachine, .initialized RX2, .code yX2_requireMachine cX2_requireMachine 1 none, .classLink RX2 171 "java/lang/IndexOutOfBoundsException", .initialized "java/lang/IndexOutOfBoundsException", .methodLink RX2 66 yX2_requireProduct, .static yX2_requireProduct, .code yX2_requireProduct cX2_requireProduct 1 none, .methodLink RX2 123 yX2_weightOn, .instanceMethod yX2_weightOn, .selects RX2 yX2_weightOn yX2_weightOn, .code yX2_weightOn cX2_weightOn 3 (some .int), .fieldLink RX2 21 "LicenceKeeper" "found" "[[I", .fieldLink RX2 9 "LicenceKeeper" "cores" "[I", .fieldLink RX2 27 "LicenceKeeper" "prices" "[I"] ++ wsX20 ++ (vx_atS RX2 175 "java/lang/IndexOutOfBoundsException" ["java/lang/RuntimeException", "java/lang/Exception"]).filter goodWord)
def wsX2_coverOn : List Cond := .code yX2_coverOn cX2_coverOn 8 (some .int) :: ([.fieldLink RX2 115 "LicenceKeeper$Right" "measure" "I", .fieldLink RX2 21 "LicenceKeeper" "found" "[[I", .fieldLink RX2 86 "LicenceKeeper$Right" "product" "I", .fieldLink RX2 89 "LicenceKeeper$Right" "version" "I"] ++ wsX10 ++ wsX20)
def wsX2_covers_r1 : List Cond := [Cond.fieldLink RX2 13 "LicenceKeeper" "hosts" "[I", Cond.methodLink RX2 102 yX2_rightAt, Cond.instanceMethod yX2_rightAt, Cond.selects RX2 yX2_rightAt yX2_rightAt, Cond.initialized RX2, Cond.code yX2_rightAt cX2_rightAt 2 (some (.object "LicenceKeeper$Right")), Cond.classLink RX2 171 "java/lang/IndexOutOfBoundsException", Cond.initialized "java/lang/IndexOutOfBoundsException", Cond.fieldLink RX2 33 "LicenceKeeper" "held" "Ljava/util/ArrayList;", Cond.classLink RX2 84 "LicenceKeeper$Right", Cond.methodLink RX2 76 yJx4a65c_size_8abf5, Cond.instanceMethod yJx4a65c_size_8abf5, Cond.selects RJx4a65c yJx4a65c_size_8abf5 yJx4a65c_size_8abf5, Cond.initialized RJx4a65c, Cond.code yJx4a65c_size_8abf5 cJx4a65c_size_8abf5 1 (some .int), Cond.fieldLink RJx4a65c 48 "java/util/ArrayList" "size" "I", Cond.methodLink RX2 80 yJx4a65c_get_915e3, Cond.instanceMethod yJx4a65c_get_915e3, Cond.selects RJx4a65c yJx4a65c_get_915e3 yJx4a65c_get_915e3, Cond.code yJx4a65c_get_915e3 cJx4a65c_get_915e3 2 (some (.object "java/lang/Object")), Cond.methodLink RJx4a65c 118 yJ15_checkIndex_7cf53, Cond.static yJ15_checkIndex_7cf53, Cond.initialized RJ15, Cond.code yJ15_checkIndex_7cf53 cJ15_checkIndex_7cf53 2 (some .int)]
def wsX2_covers_r2 : List Cond := [Cond.methodLink RJ15 105 yJ3_checkIndex_8e157, Cond.static yJ3_checkIndex_8e157, Cond.initialized RJ3, Cond.code yJ3_checkIndex_8e157 cJ3_checkIndex_8e157 3 (some .int), Cond.methodLink RJx4a65c 123 yJx4a65c_elementData_915e3, Cond.instanceMethod yJx4a65c_elementData_915e3, Cond.selects RJx4a65c yJx4a65c_elementData_915e3 yJx4a65c_elementData_915e3, Cond.code yJx4a65c_elementData_915e3 cJx4a65c_elementData_915e3 2 (some (.object "java/lang/Object")), Cond.fieldLink RJx4a65c 9 "java/util/ArrayList" "elementData" "[Ljava/lang/Object;", Cond.methodLink RX2 54 yX2_requireMachine, Cond.static yX2_requireMachine, Cond.code yX2_requireMachine cX2_requireMachine 1 none, Cond.methodLink RX2 127 yX2_coverOn, Cond.instanceMethod yX2_coverOn, Cond.selects RX2 yX2_coverOn yX2_coverOn, Cond.code yX2_coverOn cX2_coverOn 8 (some .int), Cond.fieldLink RX2 115 "LicenceKeeper$Right" "measure" "I", Cond.fieldLink RX2 21 "LicenceKeeper" "found" "[[I", Cond.fieldLink RX2 86 "LicenceKeeper$Right" "product" "I", Cond.fieldLink RX2 89 "LicenceKeeper$Right" "version" "I"]
def wsX2_covers : List Cond := .code yX2_covers cX2_covers 4 (some .int) :: ((wsX2_covers_r1 ++ wsX2_covers_r2) ++ wsX20 ++ wsJx4a65c0 ++ wsX10 ++ (vx_atS RX2 175 "java/lang/IndexOutOfBoundsException" ["java/lang/RuntimeException", "java/lang/Exception"]).filter goodWord)
def wsX2_startLayings_r1 : List Cond := [Cond.fieldLink RX2 40 "LicenceKeeper" "layings" "LLicenceKeeper$Layings;", Cond.fieldLink RX2 21 "LicenceKeeper" "found" "[[I", Cond.methodLink RX2 214 yX0_clearAll, Cond.instanceMethod yX0_clearAll, Cond.selects RX0 yX0_clearAll yX0_clearAll, Cond.initialized RX0, Cond.code yX0_clearAll cX0_clearAll 1 none, Cond.fieldLink RX0 21 "LicenceKeeper$Layings" "havers" "I", Cond.fieldLink RX0 25 "LicenceKeeper$Layings" "taken" "[I", Cond.constant RX0 34 (1000000), Cond.methodLink RX0 35 yJ7_fill_53178, Cond.static yJ7_fill_53178, Cond.initialized RJ7, Cond.code yJ7_fill_53178 cJ7_fill_53178 4 none, Cond.methodLink RX2 123 yX2_weightOn, Cond.instanceMethod yX2_weightOn, Cond.selects RX2 yX2_weightOn yX2_weightOn, Cond.initialized RX2, Cond.code yX2_weightOn cX2_weightOn 3 (some .int), Cond.fieldLink RX2 9 "LicenceKeeper" "cores" "[I", Cond.fieldLink RX2 27 "LicenceKeeper" "prices" "[I", Cond.methodLink RX2 217 yX0_weigh, Cond.instanceMethod yX0_weigh, Cond.selects RX0 yX0_weigh yX0_weigh]
def wsX2_startLayings_r2 : List Cond := [Cond.code yX0_weigh cX0_weigh 6 none, Cond.fieldLink RX0 18 "LicenceKeeper$Layings" "setWeights" "[I"]
def wsX2_startLayings : List Cond := .code yX2_startLayings cX2_startLayings 3 none :: ((wsX2_startLayings_r1 ++ wsX2_startLayings_r2) ++ wsX20 ++ wsX00)
def wsX2_takenOn : List Cond := .code yX2_takenOn cX2_takenOn 3 (some .int) :: ([.fieldLink RX2 115 "LicenceKeeper$Right" "measure" "I", .fieldLink RX2 9 "LicenceKeeper" "cores" "[I", .methodLink RX2 206 Lib.Math.max.name, .static Lib.Math.max.name, .initialized "java/lang/Math", .code Lib.Math.max.name Lib.Math.max.code 2 (some .int)] ++ wsX10 ++ wsX20)
def wsX2_takeUp : List Cond := .code yX2_takeUp cX2_takeUp 4 none :: ([.fieldLink RX2 40 "LicenceKeeper" "layings" "LLicenceKeeper$Layings;", .fieldLink RX2 221 "LicenceKeeper$Layings" "machineTakes" "[I", .fieldLink RX2 228 "LicenceKeeper$Layings" "machineCovers" "[I", .methodLink RX2 224 yX2_takenOn, .instanceMethod yX2_takenOn, .selects RX2 yX2_takenOn yX2_takenOn, .initialized RX2, .code yX2_takenOn cX2_takenOn 3 (some .int), .fieldLink RX2 115 "LicenceKeeper$Right" "measure" "I", .fieldLink RX2 9 "LicenceKeeper" "cores" "[I", .methodLink RX2 206 Lib.Math.max.name, .static Lib.Math.max.name, .initialized "java/lang/Math", .code Lib.Math.max.name Lib.Math.max.code 2 (some .int), .methodLink RX2 127 yX2_coverOn, .instanceMethod yX2_coverOn, .selects RX2 yX2_coverOn yX2_coverOn, .code yX2_coverOn cX2_coverOn 8 (some .int), .fieldLink RX2 21 "LicenceKeeper" "found" "[[I", .fieldLink RX2 86 "LicenceKeeper$Right" "product" "I", .fieldLink RX2 89 "LicenceKeeper$Right" "version" "I"] ++ wsX20 ++ wsX00 ++ wsX10)
def wsX2_layAllBut_r1 : List Cond := [Cond.fieldLink RX2 33 "LicenceKeeper" "held" "Ljava/util/ArrayList;", Cond.classLink RX2 84 "LicenceKeeper$Right", Cond.fieldLink RX2 86 "LicenceKeeper$Right" "product" "I", Cond.fieldLink RX2 112 "LicenceKeeper$Right" "count" "I", Cond.fieldLink RX2 40 "LicenceKeeper" "layings" "LLicenceKeeper$Layings;", Cond.methodLink RX2 142 yX2_startLayings, Cond.instanceMethod yX2_startLayings, Cond.selects RX2 yX2_startLayings yX2_startLayings, Cond.initialized RX2, Cond.code yX2_startLayings cX2_startLayings 3 none, Cond.fieldLink RX2 21 "LicenceKeeper" "found" "[[I", Cond.methodLink RX2 214 yX0_clearAll, Cond.instanceMethod yX0_clearAll, Cond.selects RX0 yX0_clearAll yX0_clearAll, Cond.initialized RX0, Cond.code yX0_clearAll cX0_clearAll 1 none, Cond.fieldLink RX0 21 "LicenceKeeper$Layings" "havers" "I", Cond.fieldLink RX0 25 "LicenceKeeper$Layings" "taken" "[I", Cond.constant RX0 34 (1000000), Cond.methodLink RX0 35 yJ7_fill_53178, Cond.static yJ7_fill_53178, Cond.initialized RJ7, Cond.code yJ7_fill_53178 cJ7_fill_53178 4 none, Cond.methodLink RX2 123 yX2_weightOn]
def wsX2_layAllBut_r2 : List Cond := [Cond.instanceMethod yX2_weightOn, Cond.selects RX2 yX2_weightOn yX2_weightOn, Cond.code yX2_weightOn cX2_weightOn 3 (some .int), Cond.fieldLink RX2 9 "LicenceKeeper" "cores" "[I", Cond.fieldLink RX2 27 "LicenceKeeper" "prices" "[I", Cond.methodLink RX2 217 yX0_weigh, Cond.instanceMethod yX0_weigh, Cond.selects RX0 yX0_weigh yX0_weigh, Cond.code yX0_weigh cX0_weigh 6 none, Cond.fieldLink RX0 18 "LicenceKeeper$Layings" "setWeights" "[I", Cond.methodLink RX2 76 yJx4a65c_size_8abf5, Cond.instanceMethod yJx4a65c_size_8abf5, Cond.selects RJx4a65c yJx4a65c_size_8abf5 yJx4a65c_size_8abf5, Cond.initialized RJx4a65c, Cond.code yJx4a65c_size_8abf5 cJx4a65c_size_8abf5 1 (some .int), Cond.fieldLink RJx4a65c 48 "java/util/ArrayList" "size" "I", Cond.methodLink RX2 80 yJx4a65c_get_915e3, Cond.instanceMethod yJx4a65c_get_915e3, Cond.selects RJx4a65c yJx4a65c_get_915e3 yJx4a65c_get_915e3, Cond.code yJx4a65c_get_915e3 cJx4a65c_get_915e3 2 (some (.object "java/lang/Object")), Cond.methodLink RJx4a65c 118 yJ15_checkIndex_7cf53, Cond.static yJ15_checkIndex_7cf53, Cond.initialized RJ15, Cond.code yJ15_checkIndex_7cf53 cJ15_checkIndex_7cf53 2 (some .int)]
def wsX2_layAllBut_r3 : List Cond := [Cond.methodLink RJ15 105 yJ3_checkIndex_8e157, Cond.static yJ3_checkIndex_8e157, Cond.initialized RJ3, Cond.code yJ3_checkIndex_8e157 cJ3_checkIndex_8e157 3 (some .int), Cond.methodLink RJx4a65c 123 yJx4a65c_elementData_915e3, Cond.instanceMethod yJx4a65c_elementData_915e3, Cond.selects RJx4a65c yJx4a65c_elementData_915e3 yJx4a65c_elementData_915e3, Cond.code yJx4a65c_elementData_915e3 cJx4a65c_elementData_915e3 2 (some (.object "java/lang/Object")), Cond.fieldLink RJx4a65c 9 "java/util/ArrayList" "elementData" "[Ljava/lang/Object;", Cond.methodLink RX2 145 yX2_takeUp, Cond.instanceMethod yX2_takeUp, Cond.selects RX2 yX2_takeUp yX2_takeUp, Cond.code yX2_takeUp cX2_takeUp 4 none, Cond.fieldLink RX2 221 "LicenceKeeper$Layings" "machineTakes" "[I", Cond.fieldLink RX2 228 "LicenceKeeper$Layings" "machineCovers" "[I", Cond.methodLink RX2 224 yX2_takenOn, Cond.instanceMethod yX2_takenOn, Cond.selects RX2 yX2_takenOn yX2_takenOn, Cond.code yX2_takenOn cX2_takenOn 3 (some .int), Cond.fieldLink RX2 115 "LicenceKeeper$Right" "measure" "I", Cond.methodLink RX2 206 Lib.Math.max.name, Cond.static Lib.Math.max.name, Cond.initialized "java/lang/Math", Cond.code Lib.Math.max.name Lib.Math.max.code 2 (some .int)]
def wsX2_layAllBut_r4 : List Cond := [Cond.methodLink RX2 127 yX2_coverOn, Cond.instanceMethod yX2_coverOn, Cond.selects RX2 yX2_coverOn yX2_coverOn, Cond.code yX2_coverOn cX2_coverOn 8 (some .int), Cond.fieldLink RX2 89 "LicenceKeeper$Right" "version" "I", Cond.methodLink RX2 165 yX0_layOpen, Cond.instanceMethod yX0_layOpen, Cond.selects RX0 yX0_layOpen yX0_layOpen, Cond.code yX0_layOpen cX0_layOpen 6 none, Cond.fieldLink RX0 15 "LicenceKeeper$Layings" "machineCovers" "[I", Cond.fieldLink RX0 9 "LicenceKeeper$Layings" "machineTakes" "[I", Cond.methodLink RX0 41 Lib.Math.min.name, Cond.static Lib.Math.min.name, Cond.code Lib.Math.min.name Lib.Math.min.code 2 (some .int), Cond.methodLink RX2 211 yX0_closeWithin, Cond.instanceMethod yX0_closeWithin, Cond.selects RX0 yX0_closeWithin yX0_closeWithin, Cond.code yX0_closeWithin cX0_closeWithin 3 none]
def wsX2_layAllBut : List Cond := .code yX2_layAllBut cX2_layAllBut 6 none :: ((wsX2_layAllBut_r1 ++ (wsX2_layAllBut_r2 ++ (wsX2_layAllBut_r3 ++ wsX2_layAllBut_r4))) ++ wsX20 ++ wsX10 ++ wsX00 ++ wsJx4a65c0)
def wsX2_leastUncovered_r1 : List Cond := [Cond.fieldLink RX2 40 "LicenceKeeper" "layings" "LLicenceKeeper$Layings;", Cond.methodLink RX2 161 yX2_layAllBut, Cond.instanceMethod yX2_layAllBut, Cond.selects RX2 yX2_layAllBut yX2_layAllBut, Cond.initialized RX2, Cond.code yX2_layAllBut cX2_layAllBut 6 none, Cond.fieldLink RX2 33 "LicenceKeeper" "held" "Ljava/util/ArrayList;", Cond.classLink RX2 84 "LicenceKeeper$Right", Cond.fieldLink RX2 86 "LicenceKeeper$Right" "product" "I", Cond.fieldLink RX2 112 "LicenceKeeper$Right" "count" "I", Cond.methodLink RX2 142 yX2_startLayings, Cond.instanceMethod yX2_startLayings, Cond.selects RX2 yX2_startLayings yX2_startLayings, Cond.code yX2_startLayings cX2_startLayings 3 none, Cond.fieldLink RX2 21 "LicenceKeeper" "found" "[[I", Cond.methodLink RX2 214 yX0_clearAll, Cond.instanceMethod yX0_clearAll, Cond.selects RX0 yX0_clearAll yX0_clearAll, Cond.initialized RX0, Cond.code yX0_clearAll cX0_clearAll 1 none, Cond.fieldLink RX0 21 "LicenceKeeper$Layings" "havers" "I", Cond.fieldLink RX0 25 "LicenceKeeper$Layings" "taken" "[I", Cond.constant RX0 34 (1000000), Cond.methodLink RX0 35 yJ7_fill_53178]
def wsX2_leastUncovered_r2 : List Cond := [Cond.static yJ7_fill_53178, Cond.initialized RJ7, Cond.code yJ7_fill_53178 cJ7_fill_53178 4 none, Cond.methodLink RX2 123 yX2_weightOn, Cond.instanceMethod yX2_weightOn, Cond.selects RX2 yX2_weightOn yX2_weightOn, Cond.code yX2_weightOn cX2_weightOn 3 (some .int), Cond.fieldLink RX2 9 "LicenceKeeper" "cores" "[I", Cond.fieldLink RX2 27 "LicenceKeeper" "prices" "[I", Cond.methodLink RX2 217 yX0_weigh, Cond.instanceMethod yX0_weigh, Cond.selects RX0 yX0_weigh yX0_weigh, Cond.code yX0_weigh cX0_weigh 6 none, Cond.fieldLink RX0 18 "LicenceKeeper$Layings" "setWeights" "[I", Cond.methodLink RX2 76 yJx4a65c_size_8abf5, Cond.instanceMethod yJx4a65c_size_8abf5, Cond.selects RJx4a65c yJx4a65c_size_8abf5 yJx4a65c_size_8abf5, Cond.initialized RJx4a65c, Cond.code yJx4a65c_size_8abf5 cJx4a65c_size_8abf5 1 (some .int), Cond.fieldLink RJx4a65c 48 "java/util/ArrayList" "size" "I", Cond.methodLink RX2 80 yJx4a65c_get_915e3, Cond.instanceMethod yJx4a65c_get_915e3, Cond.selects RJx4a65c yJx4a65c_get_915e3 yJx4a65c_get_915e3, Cond.code yJx4a65c_get_915e3 cJx4a65c_get_915e3 2 (some (.object "java/lang/Object"))]
def wsX2_leastUncovered_r3 : List Cond := [Cond.methodLink RJx4a65c 118 yJ15_checkIndex_7cf53, Cond.static yJ15_checkIndex_7cf53, Cond.initialized RJ15, Cond.code yJ15_checkIndex_7cf53 cJ15_checkIndex_7cf53 2 (some .int), Cond.methodLink RJ15 105 yJ3_checkIndex_8e157, Cond.static yJ3_checkIndex_8e157, Cond.initialized RJ3, Cond.code yJ3_checkIndex_8e157 cJ3_checkIndex_8e157 3 (some .int), Cond.methodLink RJx4a65c 123 yJx4a65c_elementData_915e3, Cond.instanceMethod yJx4a65c_elementData_915e3, Cond.selects RJx4a65c yJx4a65c_elementData_915e3 yJx4a65c_elementData_915e3, Cond.code yJx4a65c_elementData_915e3 cJx4a65c_elementData_915e3 2 (some (.object "java/lang/Object")), Cond.fieldLink RJx4a65c 9 "java/util/ArrayList" "elementData" "[Ljava/lang/Object;", Cond.methodLink RX2 145 yX2_takeUp, Cond.instanceMethod yX2_takeUp, Cond.selects RX2 yX2_takeUp yX2_takeUp, Cond.code yX2_takeUp cX2_takeUp 4 none, Cond.fieldLink RX2 221 "LicenceKeeper$Layings" "machineTakes" "[I", Cond.fieldLink RX2 228 "LicenceKeeper$Layings" "machineCovers" "[I", Cond.methodLink RX2 224 yX2_takenOn, Cond.instanceMethod yX2_takenOn, Cond.selects RX2 yX2_takenOn yX2_takenOn, Cond.code yX2_takenOn cX2_takenOn 3 (some .int), Cond.fieldLink RX2 115 "LicenceKeeper$Right" "measure" "I"]
def wsX2_leastUncovered_r4 : List Cond := [Cond.methodLink RX2 206 Lib.Math.max.name, Cond.static Lib.Math.max.name, Cond.initialized "java/lang/Math", Cond.code Lib.Math.max.name Lib.Math.max.code 2 (some .int), Cond.methodLink RX2 127 yX2_coverOn, Cond.instanceMethod yX2_coverOn, Cond.selects RX2 yX2_coverOn yX2_coverOn, Cond.code yX2_coverOn cX2_coverOn 8 (some .int), Cond.fieldLink RX2 89 "LicenceKeeper$Right" "version" "I", Cond.methodLink RX2 165 yX0_layOpen, Cond.instanceMethod yX0_layOpen, Cond.selects RX0 yX0_layOpen yX0_layOpen, Cond.code yX0_layOpen cX0_layOpen 6 none, Cond.fieldLink RX0 15 "LicenceKeeper$Layings" "machineCovers" "[I", Cond.fieldLink RX0 9 "LicenceKeeper$Layings" "machineTakes" "[I", Cond.methodLink RX0 41 Lib.Math.min.name, Cond.static Lib.Math.min.name, Cond.code Lib.Math.min.name Lib.Math.min.code 2 (some .int), Cond.methodLink RX2 211 yX0_closeWithin, Cond.instanceMethod yX0_closeWithin, Cond.selects RX0 yX0_closeWithin yX0_closeWithin, Cond.code yX0_closeWithin cX0_closeWithin 3 none, Cond.methodLink RX2 152 yX0_leastUncoveredWithin, Cond.instanceMethod yX0_leastUncoveredWithin]
def wsX2_leastUncovered_r5 : List Cond := [Cond.selects RX0 yX0_leastUncoveredWithin yX0_leastUncoveredWithin, Cond.code yX0_leastUncoveredWithin cX0_leastUncoveredWithin 5 (some .int), Cond.methodLink RX0 60 yX0_isLess, Cond.instanceMethod yX0_isLess, Cond.selects RX0 yX0_isLess yX0_isLess, Cond.code yX0_isLess cX0_isLess 4 (some .boolean), Cond.methodLink RX0 64 yX0_weightOfSet, Cond.instanceMethod yX0_weightOfSet, Cond.selects RX0 yX0_weightOfSet yX0_weightOfSet, Cond.code yX0_weightOfSet cX0_weightOfSet 2 (some .int)]
def wsX2_leastUncovered : List Cond := .code yX2_leastUncovered cX2_leastUncovered 3 (some .int) :: ((wsX2_leastUncovered_r1 ++ (wsX2_leastUncovered_r2 ++ (wsX2_leastUncovered_r3 ++ (wsX2_leastUncovered_r4 ++ wsX2_leastUncovered_r5)))) ++ wsX20 ++ wsX10 ++ wsX00 ++ wsJx4a65c0)
def wsX2_gap_r1 : List Cond := [Cond.fieldLink RX2 40 "LicenceKeeper" "layings" "LLicenceKeeper$Layings;", Cond.fieldLink RX2 13 "LicenceKeeper" "hosts" "[I", Cond.methodLink RX2 66 yX2_requireProduct, Cond.static yX2_requireProduct, Cond.initialized RX2, Cond.code yX2_requireProduct cX2_requireProduct 1 none, Cond.classLink RX2 171 "java/lang/IndexOutOfBoundsException", Cond.initialized "java/lang/IndexOutOfBoundsException", Cond.methodLink RX2 131 yX2_leastUncovered, Cond.instanceMethod yX2_leastUncovered, Cond.selects RX2 yX2_leastUncovered yX2_leastUncovered, Cond.code yX2_leastUncovered cX2_leastUncovered 3 (some .int), Cond.methodLink RX2 161 yX2_layAllBut, Cond.instanceMethod yX2_layAllBut, Cond.selects RX2 yX2_layAllBut yX2_layAllBut, Cond.code yX2_layAllBut cX2_layAllBut 6 none, Cond.fieldLink RX2 33 "LicenceKeeper" "held" "Ljava/util/ArrayList;", Cond.classLink RX2 84 "LicenceKeeper$Right", Cond.fieldLink RX2 86 "LicenceKeeper$Right" "product" "I", Cond.fieldLink RX2 112 "LicenceKeeper$Right" "count" "I", Cond.methodLink RX2 142 yX2_startLayings, Cond.instanceMethod yX2_startLayings, Cond.selects RX2 yX2_startLayings yX2_startLayings, Cond.code yX2_startLayings cX2_startLayings 3 none]
def wsX2_gap_r2 : List Cond := [Cond.fieldLink RX2 21 "LicenceKeeper" "found" "[[I", Cond.methodLink RX2 214 yX0_clearAll, Cond.instanceMethod yX0_clearAll, Cond.selects RX0 yX0_clearAll yX0_clearAll, Cond.initialized RX0, Cond.code yX0_clearAll cX0_clearAll 1 none, Cond.fieldLink RX0 21 "LicenceKeeper$Layings" "havers" "I", Cond.fieldLink RX0 25 "LicenceKeeper$Layings" "taken" "[I", Cond.constant RX0 34 (1000000), Cond.methodLink RX0 35 yJ7_fill_53178, Cond.static yJ7_fill_53178, Cond.initialized RJ7, Cond.code yJ7_fill_53178 cJ7_fill_53178 4 none, Cond.methodLink RX2 123 yX2_weightOn, Cond.instanceMethod yX2_weightOn, Cond.selects RX2 yX2_weightOn yX2_weightOn, Cond.code yX2_weightOn cX2_weightOn 3 (some .int), Cond.fieldLink RX2 9 "LicenceKeeper" "cores" "[I", Cond.fieldLink RX2 27 "LicenceKeeper" "prices" "[I", Cond.methodLink RX2 217 yX0_weigh, Cond.instanceMethod yX0_weigh, Cond.selects RX0 yX0_weigh yX0_weigh, Cond.code yX0_weigh cX0_weigh 6 none, Cond.fieldLink RX0 18 "LicenceKeeper$Layings" "setWeights" "[I"]
def wsX2_gap_r3 : List Cond := [Cond.methodLink RX2 76 yJx4a65c_size_8abf5, Cond.instanceMethod yJx4a65c_size_8abf5, Cond.selects RJx4a65c yJx4a65c_size_8abf5 yJx4a65c_size_8abf5, Cond.initialized RJx4a65c, Cond.code yJx4a65c_size_8abf5 cJx4a65c_size_8abf5 1 (some .int), Cond.fieldLink RJx4a65c 48 "java/util/ArrayList" "size" "I", Cond.methodLink RX2 80 yJx4a65c_get_915e3, Cond.instanceMethod yJx4a65c_get_915e3, Cond.selects RJx4a65c yJx4a65c_get_915e3 yJx4a65c_get_915e3, Cond.code yJx4a65c_get_915e3 cJx4a65c_get_915e3 2 (some (.object "java/lang/Object")), Cond.methodLink RJx4a65c 118 yJ15_checkIndex_7cf53, Cond.static yJ15_checkIndex_7cf53, Cond.initialized RJ15, Cond.code yJ15_checkIndex_7cf53 cJ15_checkIndex_7cf53 2 (some .int), Cond.methodLink RJ15 105 yJ3_checkIndex_8e157, Cond.static yJ3_checkIndex_8e157, Cond.initialized RJ3, Cond.code yJ3_checkIndex_8e157 cJ3_checkIndex_8e157 3 (some .int), Cond.methodLink RJx4a65c 123 yJx4a65c_elementData_915e3, Cond.instanceMethod yJx4a65c_elementData_915e3, Cond.selects RJx4a65c yJx4a65c_elementData_915e3 yJx4a65c_elementData_915e3, Cond.code yJx4a65c_elementData_915e3 cJx4a65c_elementData_915e3 2 (some (.object "java/lang/Object")), Cond.fieldLink RJx4a65c 9 "java/util/ArrayList" "elementData" "[Ljava/lang/Object;", Cond.methodLink RX2 145 yX2_takeUp]
def wsX2_gap_r4 : List Cond := [Cond.instanceMethod yX2_takeUp, Cond.selects RX2 yX2_takeUp yX2_takeUp, Cond.code yX2_takeUp cX2_takeUp 4 none, Cond.fieldLink RX2 221 "LicenceKeeper$Layings" "machineTakes" "[I", Cond.fieldLink RX2 228 "LicenceKeeper$Layings" "machineCovers" "[I", Cond.methodLink RX2 224 yX2_takenOn, Cond.instanceMethod yX2_takenOn, Cond.selects RX2 yX2_takenOn yX2_takenOn, Cond.code yX2_takenOn cX2_takenOn 3 (some .int), Cond.fieldLink RX2 115 "LicenceKeeper$Right" "measure" "I", Cond.methodLink RX2 206 Lib.Math.max.name, Cond.static Lib.Math.max.name, Cond.initialized "java/lang/Math", Cond.code Lib.Math.max.name Lib.Math.max.code 2 (some .int), Cond.methodLink RX2 127 yX2_coverOn, Cond.instanceMethod yX2_coverOn, Cond.selects RX2 yX2_coverOn yX2_coverOn, Cond.code yX2_coverOn cX2_coverOn 8 (some .int), Cond.fieldLink RX2 89 "LicenceKeeper$Right" "version" "I", Cond.methodLink RX2 165 yX0_layOpen, Cond.instanceMethod yX0_layOpen, Cond.selects RX0 yX0_layOpen yX0_layOpen, Cond.code yX0_layOpen cX0_layOpen 6 none, Cond.fieldLink RX0 15 "LicenceKeeper$Layings" "machineCovers" "[I"]
def wsX2_gap_r5 : List Cond := [Cond.fieldLink RX0 9 "LicenceKeeper$Layings" "machineTakes" "[I", Cond.methodLink RX0 41 Lib.Math.min.name, Cond.static Lib.Math.min.name, Cond.code Lib.Math.min.name Lib.Math.min.code 2 (some .int), Cond.methodLink RX2 211 yX0_closeWithin, Cond.instanceMethod yX0_closeWithin, Cond.selects RX0 yX0_closeWithin yX0_closeWithin, Cond.code yX0_closeWithin cX0_closeWithin 3 none, Cond.methodLink RX2 152 yX0_leastUncoveredWithin, Cond.instanceMethod yX0_leastUncoveredWithin, Cond.selects RX0 yX0_leastUncoveredWithin yX0_leastUncoveredWithin, Cond.code yX0_leastUncoveredWithin cX0_leastUncoveredWithin 5 (some .int), Cond.methodLink RX0 60 yX0_isLess, Cond.instanceMethod yX0_isLess, Cond.selects RX0 yX0_isLess yX0_isLess, Cond.code yX0_isLess cX0_isLess 4 (some .boolean), Cond.methodLink RX0 64 yX0_weightOfSet, Cond.instanceMethod yX0_weightOfSet, Cond.selects RX0 yX0_weightOfSet yX0_weightOfSet, Cond.code yX0_weightOfSet cX0_weightOfSet 2 (some .int), Cond.methodLink RX2 135 yX0_weightOfSet]
def wsX2_gap : List Cond := .code yX2_gap cX2_gap 2 (some .int) :: ((wsX2_gap_r1 ++ (wsX2_gap_r2 ++ (wsX2_gap_r3 ++ (wsX2_gap_r4 ++ wsX2_gap_r5)))) ++ wsX20 ++ wsX10 ++ wsX00 ++ wsJx4a65c0 ++ (vx_atS RX2 175 "java/lang/IndexOutOfBoundsException" ["java/lang/RuntimeException", "java/lang/Exception"]).filter goodWord)
def wsX2_uncovered_r1 : List Cond := [Cond.fieldLink RX2 13 "LicenceKeeper" "hosts" "[I", Cond.methodLink RX2 66 yX2_requireProduct, Cond.static yX2_requireProduct, Cond.initialized RX2, Cond.code yX2_requireProduct cX2_requireProduct 1 none, Cond.classLink RX2 171 "java/lang/IndexOutOfBoundsException", Cond.initialized "java/lang/IndexOutOfBoundsException", Cond.methodLink RX2 131 yX2_leastUncovered, Cond.instanceMethod yX2_leastUncovered, Cond.selects RX2 yX2_leastUncovered yX2_leastUncovered, Cond.code yX2_leastUncovered cX2_leastUncovered 3 (some .int), Cond.fieldLink RX2 40 "LicenceKeeper" "layings" "LLicenceKeeper$Layings;", Cond.methodLink RX2 161 yX2_layAllBut, Cond.instanceMethod yX2_layAllBut, Cond.selects RX2 yX2_layAllBut yX2_layAllBut, Cond.code yX2_layAllBut cX2_layAllBut 6 none, Cond.fieldLink RX2 33 "LicenceKeeper" "held" "Ljava/util/ArrayList;", Cond.classLink RX2 84 "LicenceKeeper$Right", Cond.fieldLink RX2 86 "LicenceKeeper$Right" "product" "I", Cond.fieldLink RX2 112 "LicenceKeeper$Right" "count" "I", Cond.methodLink RX2 142 yX2_startLayings, Cond.instanceMethod yX2_startLayings, Cond.selects RX2 yX2_startLayings yX2_startLayings, Cond.code yX2_startLayings cX2_startLayings 3 none]
def wsX2_uncovered_r2 : List Cond := [Cond.fieldLink RX2 21 "LicenceKeeper" "found" "[[I", Cond.methodLink RX2 214 yX0_clearAll, Cond.instanceMethod yX0_clearAll, Cond.selects RX0 yX0_clearAll yX0_clearAll, Cond.initialized RX0, Cond.code yX0_clearAll cX0_clearAll 1 none, Cond.fieldLink RX0 21 "LicenceKeeper$Layings" "havers" "I", Cond.fieldLink RX0 25 "LicenceKeeper$Layings" "taken" "[I", Cond.constant RX0 34 (1000000), Cond.methodLink RX0 35 yJ7_fill_53178, Cond.static yJ7_fill_53178, Cond.initialized RJ7, Cond.code yJ7_fill_53178 cJ7_fill_53178 4 none, Cond.methodLink RX2 123 yX2_weightOn, Cond.instanceMethod yX2_weightOn, Cond.selects RX2 yX2_weightOn yX2_weightOn, Cond.code yX2_weightOn cX2_weightOn 3 (some .int), Cond.fieldLink RX2 9 "LicenceKeeper" "cores" "[I", Cond.fieldLink RX2 27 "LicenceKeeper" "prices" "[I", Cond.methodLink RX2 217 yX0_weigh, Cond.instanceMethod yX0_weigh, Cond.selects RX0 yX0_weigh yX0_weigh, Cond.code yX0_weigh cX0_weigh 6 none, Cond.fieldLink RX0 18 "LicenceKeeper$Layings" "setWeights" "[I"]
def wsX2_uncovered_r3 : List Cond := [Cond.methodLink RX2 76 yJx4a65c_size_8abf5, Cond.instanceMethod yJx4a65c_size_8abf5, Cond.selects RJx4a65c yJx4a65c_size_8abf5 yJx4a65c_size_8abf5, Cond.initialized RJx4a65c, Cond.code yJx4a65c_size_8abf5 cJx4a65c_size_8abf5 1 (some .int), Cond.fieldLink RJx4a65c 48 "java/util/ArrayList" "size" "I", Cond.methodLink RX2 80 yJx4a65c_get_915e3, Cond.instanceMethod yJx4a65c_get_915e3, Cond.selects RJx4a65c yJx4a65c_get_915e3 yJx4a65c_get_915e3, Cond.code yJx4a65c_get_915e3 cJx4a65c_get_915e3 2 (some (.object "java/lang/Object")), Cond.methodLink RJx4a65c 118 yJ15_checkIndex_7cf53, Cond.static yJ15_checkIndex_7cf53, Cond.initialized RJ15, Cond.code yJ15_checkIndex_7cf53 cJ15_checkIndex_7cf53 2 (some .int), Cond.methodLink RJ15 105 yJ3_checkIndex_8e157, Cond.static yJ3_checkIndex_8e157, Cond.initialized RJ3, Cond.code yJ3_checkIndex_8e157 cJ3_checkIndex_8e157 3 (some .int), Cond.methodLink RJx4a65c 123 yJx4a65c_elementData_915e3, Cond.instanceMethod yJx4a65c_elementData_915e3, Cond.selects RJx4a65c yJx4a65c_elementData_915e3 yJx4a65c_elementData_915e3, Cond.code yJx4a65c_elementData_915e3 cJx4a65c_elementData_915e3 2 (some (.object "java/lang/Object")), Cond.fieldLink RJx4a65c 9 "java/util/ArrayList" "elementData" "[Ljava/lang/Object;", Cond.methodLink RX2 145 yX2_takeUp]
def wsX2_uncovered_r4 : List Cond := [Cond.instanceMethod yX2_takeUp, Cond.selects RX2 yX2_takeUp yX2_takeUp, Cond.code yX2_takeUp cX2_takeUp 4 none, Cond.fieldLink RX2 221 "LicenceKeeper$Layings" "machineTakes" "[I", Cond.fieldLink RX2 228 "LicenceKeeper$Layings" "machineCovers" "[I", Cond.methodLink RX2 224 yX2_takenOn, Cond.instanceMethod yX2_takenOn, Cond.selects RX2 yX2_takenOn yX2_takenOn, Cond.code yX2_takenOn cX2_takenOn 3 (some .int), Cond.fieldLink RX2 115 "LicenceKeeper$Right" "measure" "I", Cond.methodLink RX2 206 Lib.Math.max.name, Cond.static Lib.Math.max.name, Cond.initialized "java/lang/Math", Cond.code Lib.Math.max.name Lib.Math.max.code 2 (some .int), Cond.methodLink RX2 127 yX2_coverOn, Cond.instanceMethod yX2_coverOn, Cond.selects RX2 yX2_coverOn yX2_coverOn, Cond.code yX2_coverOn cX2_coverOn 8 (some .int), Cond.fieldLink RX2 89 "LicenceKeeper$Right" "version" "I", Cond.methodLink RX2 165 yX0_layOpen, Cond.instanceMethod yX0_layOpen, Cond.selects RX0 yX0_layOpen yX0_layOpen, Cond.code yX0_layOpen cX0_layOpen 6 none, Cond.fieldLink RX0 15 "LicenceKeeper$Layings" "machineCovers" "[I"]
def wsX2_uncovered_r5 : List Cond := [Cond.fieldLink RX0 9 "LicenceKeeper$Layings" "machineTakes" "[I", Cond.methodLink RX0 41 Lib.Math.min.name, Cond.static Lib.Math.min.name, Cond.code Lib.Math.min.name Lib.Math.min.code 2 (some .int), Cond.methodLink RX2 211 yX0_closeWithin, Cond.instanceMethod yX0_closeWithin, Cond.selects RX0 yX0_closeWithin yX0_closeWithin, Cond.code yX0_closeWithin cX0_closeWithin 3 none, Cond.methodLink RX2 152 yX0_leastUncoveredWithin, Cond.instanceMethod yX0_leastUncoveredWithin, Cond.selects RX0 yX0_leastUncoveredWithin yX0_leastUncoveredWithin, Cond.code yX0_leastUncoveredWithin cX0_leastUncoveredWithin 5 (some .int), Cond.methodLink RX0 60 yX0_isLess, Cond.instanceMethod yX0_isLess, Cond.selects RX0 yX0_isLess yX0_isLess, Cond.code yX0_isLess cX0_isLess 4 (some .boolean), Cond.methodLink RX0 64 yX0_weightOfSet, Cond.instanceMethod yX0_weightOfSet, Cond.selects RX0 yX0_weightOfSet yX0_weightOfSet, Cond.code yX0_weightOfSet cX0_weightOfSet 2 (some .int)]
def wsX2_uncovered : List Cond := .code yX2_uncovered cX2_uncovered 2 (some .int) :: ((wsX2_uncovered_r1 ++ (wsX2_uncovered_r2 ++ (wsX2_uncovered_r3 ++ (wsX2_uncovered_r4 ++ wsX2_uncovered_r5)))) ++ wsX20 ++ wsX10 ++ wsX00 ++ wsJx4a65c0 ++ (vx_atS RX2 175 "java/lang/IndexOutOfBoundsException" ["java/lang/RuntimeException", "java/lang/Exception"]).filter goodWord)
def wsX2_requireFewRights_r1 : List Cond := [Cond.classLink RX2 69 "java/lang/IllegalStateException", Cond.initialized "java/lang/IllegalStateException", Cond.fieldLink RX2 33 "LicenceKeeper" "held" "Ljava/util/ArrayList;", Cond.classLink RX2 84 "LicenceKeeper$Right", Cond.fieldLink RX2 86 "LicenceKeeper$Right" "product" "I", Cond.fieldLink RX2 112 "LicenceKeeper$Right" "count" "I", Cond.methodLink RX2 76 yJx4a65c_size_8abf5, Cond.instanceMethod yJx4a65c_size_8abf5, Cond.selects RJx4a65c yJx4a65c_size_8abf5 yJx4a65c_size_8abf5, Cond.initialized RJx4a65c, Cond.code yJx4a65c_size_8abf5 cJx4a65c_size_8abf5 1 (some .int), Cond.fieldLink RJx4a65c 48 "java/util/ArrayList" "size" "I", Cond.methodLink RX2 80 yJx4a65c_get_915e3, Cond.instanceMethod yJx4a65c_get_915e3, Cond.selects RJx4a65c yJx4a65c_get_915e3 yJx4a65c_get_915e3, Cond.code yJx4a65c_get_915e3 cJx4a65c_get_915e3 2 (some (.object "java/lang/Object")), Cond.methodLink RJx4a65c 118 yJ15_checkIndex_7cf53, Cond.static yJ15_checkIndex_7cf53, Cond.initialized RJ15, Cond.code yJ15_checkIndex_7cf53 cJ15_checkIndex_7cf53 2 (some .int), Cond.methodLink RJ15 105 yJ3_checkIndex_8e157, Cond.static yJ3_checkIndex_8e157, Cond.initialized RJ3, Cond.code yJ3_checkIndex_8e157 cJ3_checkIndex_8e157 3 (some .int)]
def wsX2_requireFewRights_r2 : List Cond := [Cond.methodLink RJx4a65c 123 yJx4a65c_elementData_915e3, Cond.instanceMethod yJx4a65c_elementData_915e3, Cond.selects RJx4a65c yJx4a65c_elementData_915e3 yJx4a65c_elementData_915e3, Cond.code yJx4a65c_elementData_915e3 cJx4a65c_elementData_915e3 2 (some (.object "java/lang/Object")), Cond.fieldLink RJx4a65c 9 "java/util/ArrayList" "elementData" "[Ljava/lang/Object;"]
def wsX2_requireFewRights : List Cond := .code yX2_requireFewRights cX2_requireFewRights 5 none :: ((wsX2_requireFewRights_r1 ++ wsX2_requireFewRights_r2) ++ wsX20 ++ wsX10 ++ wsJx4a65c0 ++ (vx_atS RX2 73 "java/lang/IllegalStateException" ["java/lang/RuntimeException", "java/lang/Exception"]).filter goodWord)
def wsX2_gapByAll_r1 : List Cond := [Cond.fieldLink RX2 33 "LicenceKeeper" "held" "Ljava/util/ArrayList;", Cond.classLink RX2 84 "LicenceKeeper$Right", Cond.fieldLink RX2 86 "LicenceKeeper$Right" "product" "I", Cond.fieldLink RX2 112 "LicenceKeeper$Right" "count" "I", Cond.fieldLink RX2 13 "LicenceKeeper" "hosts" "[I", Cond.fieldLink RX2 40 "LicenceKeeper" "layings" "LLicenceKeeper$Layings;", Cond.methodLink RX2 66 yX2_requireProduct, Cond.static yX2_requireProduct, Cond.initialized RX2, Cond.code yX2_requireProduct cX2_requireProduct 1 none, Cond.classLink RX2 171 "java/lang/IndexOutOfBoundsException", Cond.initialized "java/lang/IndexOutOfBoundsException", Cond.methodLink RX2 139 yX2_requireFewRights, Cond.instanceMethod yX2_requireFewRights, Cond.selects RX2 yX2_requireFewRights yX2_requireFewRights, Cond.code yX2_requireFewRights cX2_requireFewRights 5 none, Cond.classLink RX2 69 "java/lang/IllegalStateException", Cond.initialized "java/lang/IllegalStateException", Cond.methodLink RX2 76 yJx4a65c_size_8abf5, Cond.instanceMethod yJx4a65c_size_8abf5, Cond.selects RJx4a65c yJx4a65c_size_8abf5 yJx4a65c_size_8abf5, Cond.initialized RJx4a65c, Cond.code yJx4a65c_size_8abf5 cJx4a65c_size_8abf5 1 (some .int), Cond.fieldLink RJx4a65c 48 "java/util/ArrayList" "size" "I"]
def wsX2_gapByAll_r2 : List Cond := [Cond.methodLink RX2 80 yJx4a65c_get_915e3, Cond.instanceMethod yJx4a65c_get_915e3, Cond.selects RJx4a65c yJx4a65c_get_915e3 yJx4a65c_get_915e3, Cond.code yJx4a65c_get_915e3 cJx4a65c_get_915e3 2 (some (.object "java/lang/Object")), Cond.methodLink RJx4a65c 118 yJ15_checkIndex_7cf53, Cond.static yJ15_checkIndex_7cf53, Cond.initialized RJ15, Cond.code yJ15_checkIndex_7cf53 cJ15_checkIndex_7cf53 2 (some .int), Cond.methodLink RJ15 105 yJ3_checkIndex_8e157, Cond.static yJ3_checkIndex_8e157, Cond.initialized RJ3, Cond.code yJ3_checkIndex_8e157 cJ3_checkIndex_8e157 3 (some .int), Cond.methodLink RJx4a65c 123 yJx4a65c_elementData_915e3, Cond.instanceMethod yJx4a65c_elementData_915e3, Cond.selects RJx4a65c yJx4a65c_elementData_915e3 yJx4a65c_elementData_915e3, Cond.code yJx4a65c_elementData_915e3 cJx4a65c_elementData_915e3 2 (some (.object "java/lang/Object")), Cond.fieldLink RJx4a65c 9 "java/util/ArrayList" "elementData" "[Ljava/lang/Object;", Cond.methodLink RX2 142 yX2_startLayings, Cond.instanceMethod yX2_startLayings, Cond.selects RX2 yX2_startLayings yX2_startLayings, Cond.code yX2_startLayings cX2_startLayings 3 none, Cond.fieldLink RX2 21 "LicenceKeeper" "found" "[[I", Cond.methodLink RX2 214 yX0_clearAll, Cond.instanceMethod yX0_clearAll]
def wsX2_gapByAll_r3 : List Cond := [Cond.selects RX0 yX0_clearAll yX0_clearAll, Cond.initialized RX0, Cond.code yX0_clearAll cX0_clearAll 1 none, Cond.fieldLink RX0 21 "LicenceKeeper$Layings" "havers" "I", Cond.fieldLink RX0 25 "LicenceKeeper$Layings" "taken" "[I", Cond.constant RX0 34 (1000000), Cond.methodLink RX0 35 yJ7_fill_53178, Cond.static yJ7_fill_53178, Cond.initialized RJ7, Cond.code yJ7_fill_53178 cJ7_fill_53178 4 none, Cond.methodLink RX2 123 yX2_weightOn, Cond.instanceMethod yX2_weightOn, Cond.selects RX2 yX2_weightOn yX2_weightOn, Cond.code yX2_weightOn cX2_weightOn 3 (some .int), Cond.fieldLink RX2 9 "LicenceKeeper" "cores" "[I", Cond.fieldLink RX2 27 "LicenceKeeper" "prices" "[I", Cond.methodLink RX2 217 yX0_weigh, Cond.instanceMethod yX0_weigh, Cond.selects RX0 yX0_weigh yX0_weigh, Cond.code yX0_weigh cX0_weigh 6 none, Cond.fieldLink RX0 18 "LicenceKeeper$Layings" "setWeights" "[I", Cond.methodLink RX2 145 yX2_takeUp, Cond.instanceMethod yX2_takeUp, Cond.selects RX2 yX2_takeUp yX2_takeUp]
def wsX2_gapByAll_r4 : List Cond := [Cond.code yX2_takeUp cX2_takeUp 4 none, Cond.fieldLink RX2 221 "LicenceKeeper$Layings" "machineTakes" "[I", Cond.fieldLink RX2 228 "LicenceKeeper$Layings" "machineCovers" "[I", Cond.methodLink RX2 224 yX2_takenOn, Cond.instanceMethod yX2_takenOn, Cond.selects RX2 yX2_takenOn yX2_takenOn, Cond.code yX2_takenOn cX2_takenOn 3 (some .int), Cond.fieldLink RX2 115 "LicenceKeeper$Right" "measure" "I", Cond.methodLink RX2 206 Lib.Math.max.name, Cond.static Lib.Math.max.name, Cond.initialized "java/lang/Math", Cond.code Lib.Math.max.name Lib.Math.max.code 2 (some .int), Cond.methodLink RX2 127 yX2_coverOn, Cond.instanceMethod yX2_coverOn, Cond.selects RX2 yX2_coverOn yX2_coverOn, Cond.code yX2_coverOn cX2_coverOn 8 (some .int), Cond.fieldLink RX2 89 "LicenceKeeper$Right" "version" "I", Cond.methodLink RX2 149 yX0_layOnAllSets, Cond.instanceMethod yX0_layOnAllSets, Cond.selects RX0 yX0_layOnAllSets yX0_layOnAllSets, Cond.code yX0_layOnAllSets cX0_layOnAllSets 3 none, Cond.fieldLink RX0 31 "LicenceKeeper$Layings" "setCovers" "[I", Cond.fieldLink RX0 28 "LicenceKeeper$Layings" "takenNext" "[I", Cond.methodLink RX0 54 arraycopyName]
def wsX2_gapByAll_r5 : List Cond := [Cond.native arraycopyName, Cond.static arraycopyName, Cond.initialized "java/lang/System", Cond.methodLink RX0 47 yX0_coverOfSet, Cond.instanceMethod yX0_coverOfSet, Cond.selects RX0 yX0_coverOfSet yX0_coverOfSet, Cond.code yX0_coverOfSet cX0_coverOfSet 6 (some .int), Cond.fieldLink RX0 9 "LicenceKeeper$Layings" "machineTakes" "[I", Cond.fieldLink RX0 15 "LicenceKeeper$Layings" "machineCovers" "[I", Cond.methodLink RX0 50 yX0_addToAll, Cond.instanceMethod yX0_addToAll, Cond.selects RX0 yX0_addToAll yX0_addToAll, Cond.code yX0_addToAll cX0_addToAll 3 none, Cond.methodLink RX2 152 yX0_leastUncoveredWithin, Cond.instanceMethod yX0_leastUncoveredWithin, Cond.selects RX0 yX0_leastUncoveredWithin yX0_leastUncoveredWithin, Cond.code yX0_leastUncoveredWithin cX0_leastUncoveredWithin 5 (some .int), Cond.methodLink RX0 60 yX0_isLess, Cond.instanceMethod yX0_isLess, Cond.selects RX0 yX0_isLess yX0_isLess, Cond.code yX0_isLess cX0_isLess 4 (some .boolean), Cond.methodLink RX0 64 yX0_weightOfSet, Cond.instanceMethod yX0_weightOfSet, Cond.selects RX0 yX0_weightOfSet yX0_weightOfSet]
def wsX2_gapByAll_r6 : List Cond := [Cond.code yX0_weightOfSet cX0_weightOfSet 2 (some .int), Cond.methodLink RX2 135 yX0_weightOfSet]
def wsX2_gapByAll : List Cond := .code yX2_gapByAll cX2_gapByAll 4 (some .int) :: ((wsX2_gapByAll_r1 ++ (wsX2_gapByAll_r2 ++ (wsX2_gapByAll_r3 ++ (wsX2_gapByAll_r4 ++ (wsX2_gapByAll_r5 ++ wsX2_gapByAll_r6))))) ++ wsX20 ++ wsX10 ++ wsJx4a65c0 ++ wsX00 ++ (vx_atS RX2 175 "java/lang/IndexOutOfBoundsException" ["java/lang/RuntimeException", "java/lang/Exception"]).filter goodWord ++ (vx_atS RX2 73 "java/lang/IllegalStateException" ["java/lang/RuntimeException", "java/lang/Exception"]).filter goodWord)
def wsX2_gapIf_r1 : List Cond := [Cond.fieldLink RX2 13 "LicenceKeeper" "hosts" "[I", Cond.fieldLink RX2 16 "LicenceKeeper" "supposedHosts" "[I", Cond.methodLink RX2 155 arraycopyName, Cond.native arraycopyName, Cond.static arraycopyName, Cond.initialized "java/lang/System", Cond.fieldLink RX2 40 "LicenceKeeper" "layings" "LLicenceKeeper$Layings;", Cond.methodLink RX2 66 yX2_requireProduct, Cond.static yX2_requireProduct, Cond.initialized RX2, Cond.code yX2_requireProduct cX2_requireProduct 1 none, Cond.classLink RX2 171 "java/lang/IndexOutOfBoundsException", Cond.initialized "java/lang/IndexOutOfBoundsException", Cond.methodLink RX2 62 yX2_requireMovable, Cond.instanceMethod yX2_requireMovable, Cond.selects RX2 yX2_requireMovable yX2_requireMovable, Cond.code yX2_requireMovable cX2_requireMovable 3 none, Cond.classLink RX2 178 "java/lang/IllegalArgumentException", Cond.initialized "java/lang/IllegalArgumentException", Cond.classLink RX2 69 "java/lang/IllegalStateException", Cond.initialized "java/lang/IllegalStateException", Cond.methodLink RX2 54 yX2_requireMachine, Cond.static yX2_requireMachine, Cond.code yX2_requireMachine cX2_requireMachine 1 none]
def wsX2_gapIf_r2 : List Cond := [Cond.methodLink RX2 189 yX2_isHost, Cond.instanceMethod yX2_isHost, Cond.selects RX2 yX2_isHost yX2_isHost, Cond.code yX2_isHost cX2_isHost 3 (some .boolean), Cond.methodLink RX2 131 yX2_leastUncovered, Cond.instanceMethod yX2_leastUncovered, Cond.selects RX2 yX2_leastUncovered yX2_leastUncovered, Cond.code yX2_leastUncovered cX2_leastUncovered 3 (some .int), Cond.methodLink RX2 161 yX2_layAllBut, Cond.instanceMethod yX2_layAllBut, Cond.selects RX2 yX2_layAllBut yX2_layAllBut, Cond.code yX2_layAllBut cX2_layAllBut 6 none, Cond.fieldLink RX2 33 "LicenceKeeper" "held" "Ljava/util/ArrayList;", Cond.classLink RX2 84 "LicenceKeeper$Right", Cond.fieldLink RX2 86 "LicenceKeeper$Right" "product" "I", Cond.fieldLink RX2 112 "LicenceKeeper$Right" "count" "I", Cond.methodLink RX2 142 yX2_startLayings, Cond.instanceMethod yX2_startLayings, Cond.selects RX2 yX2_startLayings yX2_startLayings, Cond.code yX2_startLayings cX2_startLayings 3 none, Cond.fieldLink RX2 21 "LicenceKeeper" "found" "[[I", Cond.methodLink RX2 214 yX0_clearAll, Cond.instanceMethod yX0_clearAll, Cond.selects RX0 yX0_clearAll yX0_clearAll]
def wsX2_gapIf_r3 : List Cond := [Cond.initialized RX0, Cond.code yX0_clearAll cX0_clearAll 1 none, Cond.fieldLink RX0 21 "LicenceKeeper$Layings" "havers" "I", Cond.fieldLink RX0 25 "LicenceKeeper$Layings" "taken" "[I", Cond.constant RX0 34 (1000000), Cond.methodLink RX0 35 yJ7_fill_53178, Cond.static yJ7_fill_53178, Cond.initialized RJ7, Cond.code yJ7_fill_53178 cJ7_fill_53178 4 none, Cond.methodLink RX2 123 yX2_weightOn, Cond.instanceMethod yX2_weightOn, Cond.selects RX2 yX2_weightOn yX2_weightOn, Cond.code yX2_weightOn cX2_weightOn 3 (some .int), Cond.fieldLink RX2 9 "LicenceKeeper" "cores" "[I", Cond.fieldLink RX2 27 "LicenceKeeper" "prices" "[I", Cond.methodLink RX2 217 yX0_weigh, Cond.instanceMethod yX0_weigh, Cond.selects RX0 yX0_weigh yX0_weigh, Cond.code yX0_weigh cX0_weigh 6 none, Cond.fieldLink RX0 18 "LicenceKeeper$Layings" "setWeights" "[I", Cond.methodLink RX2 76 yJx4a65c_size_8abf5, Cond.instanceMethod yJx4a65c_size_8abf5, Cond.selects RJx4a65c yJx4a65c_size_8abf5 yJx4a65c_size_8abf5, Cond.initialized RJx4a65c]
def wsX2_gapIf_r4 : List Cond := [Cond.code yJx4a65c_size_8abf5 cJx4a65c_size_8abf5 1 (some .int), Cond.fieldLink RJx4a65c 48 "java/util/ArrayList" "size" "I", Cond.methodLink RX2 80 yJx4a65c_get_915e3, Cond.instanceMethod yJx4a65c_get_915e3, Cond.selects RJx4a65c yJx4a65c_get_915e3 yJx4a65c_get_915e3, Cond.code yJx4a65c_get_915e3 cJx4a65c_get_915e3 2 (some (.object "java/lang/Object")), Cond.methodLink RJx4a65c 118 yJ15_checkIndex_7cf53, Cond.static yJ15_checkIndex_7cf53, Cond.initialized RJ15, Cond.code yJ15_checkIndex_7cf53 cJ15_checkIndex_7cf53 2 (some .int), Cond.methodLink RJ15 105 yJ3_checkIndex_8e157, Cond.static yJ3_checkIndex_8e157, Cond.initialized RJ3, Cond.code yJ3_checkIndex_8e157 cJ3_checkIndex_8e157 3 (some .int), Cond.methodLink RJx4a65c 123 yJx4a65c_elementData_915e3, Cond.instanceMethod yJx4a65c_elementData_915e3, Cond.selects RJx4a65c yJx4a65c_elementData_915e3 yJx4a65c_elementData_915e3, Cond.code yJx4a65c_elementData_915e3 cJx4a65c_elementData_915e3 2 (some (.object "java/lang/Object")), Cond.fieldLink RJx4a65c 9 "java/util/ArrayList" "elementData" "[Ljava/lang/Object;", Cond.methodLink RX2 145 yX2_takeUp, Cond.instanceMethod yX2_takeUp, Cond.selects RX2 yX2_takeUp yX2_takeUp, Cond.code yX2_takeUp cX2_takeUp 4 none, Cond.fieldLink RX2 221 "LicenceKeeper$Layings" "machineTakes" "[I"]
def wsX2_gapIf_r5 : List Cond := [Cond.fieldLink RX2 228 "LicenceKeeper$Layings" "machineCovers" "[I", Cond.methodLink RX2 224 yX2_takenOn, Cond.instanceMethod yX2_takenOn, Cond.selects RX2 yX2_takenOn yX2_takenOn, Cond.code yX2_takenOn cX2_takenOn 3 (some .int), Cond.fieldLink RX2 115 "LicenceKeeper$Right" "measure" "I", Cond.methodLink RX2 206 Lib.Math.max.name, Cond.static Lib.Math.max.name, Cond.initialized "java/lang/Math", Cond.code Lib.Math.max.name Lib.Math.max.code 2 (some .int), Cond.methodLink RX2 127 yX2_coverOn, Cond.instanceMethod yX2_coverOn, Cond.selects RX2 yX2_coverOn yX2_coverOn, Cond.code yX2_coverOn cX2_coverOn 8 (some .int), Cond.fieldLink RX2 89 "LicenceKeeper$Right" "version" "I", Cond.methodLink RX2 165 yX0_layOpen, Cond.instanceMethod yX0_layOpen, Cond.selects RX0 yX0_layOpen yX0_layOpen, Cond.code yX0_layOpen cX0_layOpen 6 none, Cond.fieldLink RX0 15 "LicenceKeeper$Layings" "machineCovers" "[I", Cond.fieldLink RX0 9 "LicenceKeeper$Layings" "machineTakes" "[I", Cond.methodLink RX0 41 Lib.Math.min.name, Cond.static Lib.Math.min.name, Cond.code Lib.Math.min.name Lib.Math.min.code 2 (some .int)]
def wsX2_gapIf_r6 : List Cond := [Cond.methodLink RX2 211 yX0_closeWithin, Cond.instanceMethod yX0_closeWithin, Cond.selects RX0 yX0_closeWithin yX0_closeWithin, Cond.code yX0_closeWithin cX0_closeWithin 3 none, Cond.methodLink RX2 152 yX0_leastUncoveredWithin, Cond.instanceMethod yX0_leastUncoveredWithin, Cond.selects RX0 yX0_leastUncoveredWithin yX0_leastUncoveredWithin, Cond.code yX0_leastUncoveredWithin cX0_leastUncoveredWithin 5 (some .int), Cond.methodLink RX0 60 yX0_isLess, Cond.instanceMethod yX0_isLess, Cond.selects RX0 yX0_isLess yX0_isLess, Cond.code yX0_isLess cX0_isLess 4 (some .boolean), Cond.methodLink RX0 64 yX0_weightOfSet, Cond.instanceMethod yX0_weightOfSet, Cond.selects RX0 yX0_weightOfSet yX0_weightOfSet, Cond.code yX0_weightOfSet cX0_weightOfSet 2 (some .int), Cond.methodLink RX2 135 yX0_weightOfSet]
def wsX2_gapIf : List Cond := .code yX2_gapIf cX2_gapIf 4 (some .int) :: ((wsX2_gapIf_r1 ++ (wsX2_gapIf_r2 ++ (wsX2_gapIf_r3 ++ (wsX2_gapIf_r4 ++ (wsX2_gapIf_r5 ++ wsX2_gapIf_r6))))) ++ wsX20 ++ wsX10 ++ wsX00 ++ wsJx4a65c0 ++ (vx_atS RX2 175 "java/lang/IndexOutOfBoundsException" ["java/lang/RuntimeException", "java/lang/Exception"]).filter goodWord ++ (vx_atS RX2 182 "java/lang/IllegalArgumentException" ["java/lang/RuntimeException", "java/lang/Exception"]).filter goodWord ++ (vx_atS RX2 73 "java/lang/IllegalStateException" ["java/lang/RuntimeException", "java/lang/Exception"]).filter goodWord)
def wsX2_spare_r1 : List Cond := [Cond.fieldLink RX2 86 "LicenceKeeper$Right" "product" "I", Cond.fieldLink RX2 13 "LicenceKeeper" "hosts" "[I", Cond.fieldLink RX2 40 "LicenceKeeper" "layings" "LLicenceKeeper$Layings;", Cond.fieldLink RX2 112 "LicenceKeeper$Right" "count" "I", Cond.methodLink RX2 102 yX2_rightAt, Cond.instanceMethod yX2_rightAt, Cond.selects RX2 yX2_rightAt yX2_rightAt, Cond.initialized RX2, Cond.code yX2_rightAt cX2_rightAt 2 (some (.object "LicenceKeeper$Right")), Cond.classLink RX2 171 "java/lang/IndexOutOfBoundsException", Cond.initialized "java/lang/IndexOutOfBoundsException", Cond.fieldLink RX2 33 "LicenceKeeper" "held" "Ljava/util/ArrayList;", Cond.classLink RX2 84 "LicenceKeeper$Right", Cond.methodLink RX2 76 yJx4a65c_size_8abf5, Cond.instanceMethod yJx4a65c_size_8abf5, Cond.selects RJx4a65c yJx4a65c_size_8abf5 yJx4a65c_size_8abf5, Cond.initialized RJx4a65c, Cond.code yJx4a65c_size_8abf5 cJx4a65c_size_8abf5 1 (some .int), Cond.fieldLink RJx4a65c 48 "java/util/ArrayList" "size" "I", Cond.methodLink RX2 80 yJx4a65c_get_915e3, Cond.instanceMethod yJx4a65c_get_915e3, Cond.selects RJx4a65c yJx4a65c_get_915e3 yJx4a65c_get_915e3, Cond.code yJx4a65c_get_915e3 cJx4a65c_get_915e3 2 (some (.object "java/lang/Object")), Cond.methodLink RJx4a65c 118 yJ15_checkIndex_7cf53]
def wsX2_spare_r2 : List Cond := [Cond.static yJ15_checkIndex_7cf53, Cond.initialized RJ15, Cond.code yJ15_checkIndex_7cf53 cJ15_checkIndex_7cf53 2 (some .int), Cond.methodLink RJ15 105 yJ3_checkIndex_8e157, Cond.static yJ3_checkIndex_8e157, Cond.initialized RJ3, Cond.code yJ3_checkIndex_8e157 cJ3_checkIndex_8e157 3 (some .int), Cond.methodLink RJx4a65c 123 yJx4a65c_elementData_915e3, Cond.instanceMethod yJx4a65c_elementData_915e3, Cond.selects RJx4a65c yJx4a65c_elementData_915e3 yJx4a65c_elementData_915e3, Cond.code yJx4a65c_elementData_915e3 cJx4a65c_elementData_915e3 2 (some (.object "java/lang/Object")), Cond.fieldLink RJx4a65c 9 "java/util/ArrayList" "elementData" "[Ljava/lang/Object;", Cond.methodLink RX2 161 yX2_layAllBut, Cond.instanceMethod yX2_layAllBut, Cond.selects RX2 yX2_layAllBut yX2_layAllBut, Cond.code yX2_layAllBut cX2_layAllBut 6 none, Cond.methodLink RX2 142 yX2_startLayings, Cond.instanceMethod yX2_startLayings, Cond.selects RX2 yX2_startLayings yX2_startLayings, Cond.code yX2_startLayings cX2_startLayings 3 none, Cond.fieldLink RX2 21 "LicenceKeeper" "found" "[[I", Cond.methodLink RX2 214 yX0_clearAll, Cond.instanceMethod yX0_clearAll, Cond.selects RX0 yX0_clearAll yX0_clearAll]
def wsX2_spare_r3 : List Cond := [Cond.initialized RX0, Cond.code yX0_clearAll cX0_clearAll 1 none, Cond.fieldLink RX0 21 "LicenceKeeper$Layings" "havers" "I", Cond.fieldLink RX0 25 "LicenceKeeper$Layings" "taken" "[I", Cond.constant RX0 34 (1000000), Cond.methodLink RX0 35 yJ7_fill_53178, Cond.static yJ7_fill_53178, Cond.initialized RJ7, Cond.code yJ7_fill_53178 cJ7_fill_53178 4 none, Cond.methodLink RX2 123 yX2_weightOn, Cond.instanceMethod yX2_weightOn, Cond.selects RX2 yX2_weightOn yX2_weightOn, Cond.code yX2_weightOn cX2_weightOn 3 (some .int), Cond.fieldLink RX2 9 "LicenceKeeper" "cores" "[I", Cond.fieldLink RX2 27 "LicenceKeeper" "prices" "[I", Cond.methodLink RX2 217 yX0_weigh, Cond.instanceMethod yX0_weigh, Cond.selects RX0 yX0_weigh yX0_weigh, Cond.code yX0_weigh cX0_weigh 6 none, Cond.fieldLink RX0 18 "LicenceKeeper$Layings" "setWeights" "[I", Cond.methodLink RX2 145 yX2_takeUp, Cond.instanceMethod yX2_takeUp, Cond.selects RX2 yX2_takeUp yX2_takeUp, Cond.code yX2_takeUp cX2_takeUp 4 none]
def wsX2_spare_r4 : List Cond := [Cond.fieldLink RX2 221 "LicenceKeeper$Layings" "machineTakes" "[I", Cond.fieldLink RX2 228 "LicenceKeeper$Layings" "machineCovers" "[I", Cond.methodLink RX2 224 yX2_takenOn, Cond.instanceMethod yX2_takenOn, Cond.selects RX2 yX2_takenOn yX2_takenOn, Cond.code yX2_takenOn cX2_takenOn 3 (some .int), Cond.fieldLink RX2 115 "LicenceKeeper$Right" "measure" "I", Cond.methodLink RX2 206 Lib.Math.max.name, Cond.static Lib.Math.max.name, Cond.initialized "java/lang/Math", Cond.code Lib.Math.max.name Lib.Math.max.code 2 (some .int), Cond.methodLink RX2 127 yX2_coverOn, Cond.instanceMethod yX2_coverOn, Cond.selects RX2 yX2_coverOn yX2_coverOn, Cond.code yX2_coverOn cX2_coverOn 8 (some .int), Cond.fieldLink RX2 89 "LicenceKeeper$Right" "version" "I", Cond.methodLink RX2 165 yX0_layOpen, Cond.instanceMethod yX0_layOpen, Cond.selects RX0 yX0_layOpen yX0_layOpen, Cond.code yX0_layOpen cX0_layOpen 6 none, Cond.fieldLink RX0 15 "LicenceKeeper$Layings" "machineCovers" "[I", Cond.fieldLink RX0 9 "LicenceKeeper$Layings" "machineTakes" "[I", Cond.methodLink RX0 41 Lib.Math.min.name, Cond.static Lib.Math.min.name]
def wsX2_spare_r5 : List Cond := [Cond.code Lib.Math.min.name Lib.Math.min.code 2 (some .int), Cond.methodLink RX2 211 yX0_closeWithin, Cond.instanceMethod yX0_closeWithin, Cond.selects RX0 yX0_closeWithin yX0_closeWithin, Cond.code yX0_closeWithin cX0_closeWithin 3 none, Cond.methodLink RX2 152 yX0_leastUncoveredWithin, Cond.instanceMethod yX0_leastUncoveredWithin, Cond.selects RX0 yX0_leastUncoveredWithin yX0_leastUncoveredWithin, Cond.code yX0_leastUncoveredWithin cX0_leastUncoveredWithin 5 (some .int), Cond.methodLink RX0 60 yX0_isLess, Cond.instanceMethod yX0_isLess, Cond.selects RX0 yX0_isLess yX0_isLess, Cond.code yX0_isLess cX0_isLess 4 (some .boolean), Cond.methodLink RX0 64 yX0_weightOfSet, Cond.instanceMethod yX0_weightOfSet, Cond.selects RX0 yX0_weightOfSet yX0_weightOfSet, Cond.code yX0_weightOfSet cX0_weightOfSet 2 (some .int), Cond.methodLink RX2 135 yX0_weightOfSet, Cond.methodLink RX2 168 yX0_leastTakenFor, Cond.instanceMethod yX0_leastTakenFor, Cond.selects RX0 yX0_leastTakenFor yX0_leastTakenFor, Cond.code yX0_leastTakenFor cX0_leastTakenFor 4 (some .int)]
def wsX2_spare : List Cond := .code yX2_spare cX2_spare 4 (some .int) :: ((wsX2_spare_r1 ++ (wsX2_spare_r2 ++ (wsX2_spare_r3 ++ (wsX2_spare_r4 ++ wsX2_spare_r5)))) ++ wsX10 ++ wsX20 ++ wsJx4a65c0 ++ wsX00 ++ (vx_atS RX2 175 "java/lang/IndexOutOfBoundsException" ["java/lang/RuntimeException", "java/lang/Exception"]).filter goodWord)
def wsX3_init : List Cond := .code yX3_init cX3_init 2 none :: ([.methodLink RX3 1 objectInit, .instanceMethod objectInit, .code objectInit ⟨#[0xb1]⟩ 1 none, .arrayClass .int, .fieldLink RX3 7 "LicenceKeeperModel" "cores" "[I", .fieldLink RX3 13 "LicenceKeeperModel" "host" "[I", .fieldLink RX3 16 "LicenceKeeperModel" "version" "[I", .fieldLink RX3 19 "LicenceKeeperModel" "latest" "[I", .fieldLink RX3 22 "LicenceKeeperModel" "price" "[I", .fieldLink RX3 25 "LicenceKeeperModel" "product" "[I", .fieldLink RX3 28 "LicenceKeeperModel" "measure" "[I", .fieldLink RX3 31 "LicenceKeeperModel" "count" "[I", .fieldLink RX3 34 "LicenceKeeperModel" "lent" "[I", .fieldLink RX3 37 "LicenceKeeperModel" "of" "[I", .fieldLink RX3 40 "LicenceKeeperModel" "last" "[I", .arrayClass .boolean, .fieldLink RX3 43 "LicenceKeeperModel" "can" "[Z", .fieldLink RX3 47 "LicenceKeeperModel" "then" "[Z", .fieldLink RX3 50 "LicenceKeeperModel" "takes" "[I", .fieldLink RX3 53 "LicenceKeeperModel" "spread" "[I"] ++ wsX30)
def wsX3_thrown : List Cond := .code yX3_thrown cX3_thrown 1 (some .int) :: ([.fieldLink RX3 56 "LicenceKeeperModel" "thrown" "I"] ++ wsX30)
def wsX3_fails : List Cond := .code yX3_fails cX3_fails 2 (some .int) :: ([.fieldLink RX3 56 "LicenceKeeperModel" "thrown" "I"] ++ wsX30)
def wsX3_in : List Cond := .code yX3_in cX3_in 3 (some .boolean) :: ([])
def wsX3_isMachine : List Cond := .code yX3_isMachine cX3_isMachine 1 (some .boolean) :: ([.methodLink RX3 60 yX3_in, .static yX3_in, .initialized RX3, .code yX3_in cX3_in 3 (some .boolean)])
def wsX3_isProduct : List Cond := .code yX3_isProduct cX3_isProduct 1 (some .boolean) :: ([.methodLink RX3 60 yX3_in, .static yX3_in, .initialized RX3, .code yX3_in cX3_in 3 (some .boolean)])
def wsX3_isRight : List Cond := .code yX3_isRight cX3_isRight 2 (some .boolean) :: ([.fieldLink RX3 64 "LicenceKeeperModel" "rights" "I", .methodLink RX3 60 yX3_in, .static yX3_in, .initialized RX3, .code yX3_in cX3_in 3 (some .boolean)] ++ wsX30)
def wsX3_setCores : List Cond := .code yX3_setCores cX3_setCores 4 (some .int) :: ([.fieldLink RX3 56 "LicenceKeeperModel" "thrown" "I", .fieldLink RX3 7 "LicenceKeeperModel" "cores" "[I", .methodLink RX3 67 yX3_isMachine, .static yX3_isMachine, .initialized RX3, .code yX3_isMachine cX3_isMachine 1 (some .boolean), .methodLink RX3 60 yX3_in, .static yX3_in, .code yX3_in cX3_in 3 (some .boolean), .methodLink RX3 71 yX3_fails, .instanceMethod yX3_fails, .selects RX3 yX3_fails yX3_fails, .code yX3_fails cX3_fails 2 (some .int)] ++ wsX30)
def wsX3_isHost : List Cond := .code yX3_isHost cX3_isHost 4 (some .boolean) :: ([.fieldLink RX3 13 "LicenceKeeperModel" "host" "[I"] ++ wsX30)
def wsX3_refuses : List Cond := .code yX3_refuses cX3_refuses 3 (some .int) :: ([.fieldLink RX3 13 "LicenceKeeperModel" "host" "[I", .methodLink RX3 67 yX3_isMachine, .static yX3_isMachine, .initialized RX3, .code yX3_isMachine cX3_isMachine 1 (some .boolean), .methodLink RX3 60 yX3_in, .static yX3_in, .code yX3_in cX3_in 3 (some .boolean), .methodLink RX3 75 yX3_isHost, .instanceMethod yX3_isHost, .selects RX3 yX3_isHost yX3_isHost, .code yX3_isHost cX3_isHost 4 (some .boolean)] ++ wsX30)
def wsX3_move : List Cond := .code yX3_move cX3_move 4 (some .int) :: ([.fieldLink RX3 56 "LicenceKeeperModel" "thrown" "I", .fieldLink RX3 13 "LicenceKeeperModel" "host" "[I", .methodLink RX3 78 yX3_refuses, .instanceMethod yX3_refuses, .selects RX3 yX3_refuses yX3_refuses, .initialized RX3, .code yX3_refuses cX3_refuses 3 (some .int), .methodLink RX3 67 yX3_isMachine, .static yX3_isMachine, .code yX3_isMachine cX3_isMachine 1 (some .boolean), .methodLink RX3 60 yX3_in, .static yX3_in, .code yX3_in cX3_in 3 (some .boolean), .methodLink RX3 75 yX3_isHost, .instanceMethod yX3_isHost, .selects RX3 yX3_isHost yX3_isHost, .code yX3_isHost cX3_isHost 4 (some .boolean)] ++ wsX30)
def wsX3_find : List Cond := .code yX3_find cX3_find 5 (some .int) :: ([.fieldLink RX3 56 "LicenceKeeperModel" "thrown" "I", .fieldLink RX3 19 "LicenceKeeperModel" "latest" "[I", .fieldLink RX3 16 "LicenceKeeperModel" "version" "[I", .methodLink RX3 67 yX3_isMachine, .static yX3_isMachine, .initialized RX3, .code yX3_isMachine cX3_isMachine 1 (some .boolean), .methodLink RX3 60 yX3_in, .static yX3_in, .code yX3_in cX3_in 3 (some .boolean), .methodLink RX3 82 yX3_isProduct, .static yX3_isProduct, .code yX3_isProduct cX3_isProduct 1 (some .boolean), .methodLink RX3 71 yX3_fails, .instanceMethod yX3_fails, .selects RX3 yX3_fails yX3_fails, .code yX3_fails cX3_fails 2 (some .int)] ++ wsX30)
def wsX3_setPrice : List Cond := .code yX3_setPrice cX3_setPrice 4 (some .int) :: ([.fieldLink RX3 56 "LicenceKeeperModel" "thrown" "I", .fieldLink RX3 22 "LicenceKeeperModel" "price" "[I", .methodLink RX3 82 yX3_isProduct, .static yX3_isProduct, .initialized RX3, .code yX3_isProduct cX3_isProduct 1 (some .boolean), .methodLink RX3 60 yX3_in, .static yX3_in, .code yX3_in cX3_in 3 (some .boolean), .methodLink RX3 71 yX3_fails, .instanceMethod yX3_fails, .selects RX3 yX3_fails yX3_fails, .code yX3_fails cX3_fails 2 (some .int)] ++ wsX30)
def wsX3_release : List Cond := .code yX3_release cX3_release 4 (some .int) :: ([.fieldLink RX3 56 "LicenceKeeperModel" "thrown" "I", .fieldLink RX3 19 "LicenceKeeperModel" "latest" "[I", .fieldLink RX3 64 "LicenceKeeperModel" "rights" "I", .fieldLink RX3 25 "LicenceKeeperModel" "product" "[I", .fieldLink RX3 40 "LicenceKeeperModel" "last" "[I", .fieldLink RX3 85 "LicenceKeeperModel" "now" "I", .fieldLink RX3 37 "LicenceKeeperModel" "of" "[I", .methodLink RX3 82 yX3_isProduct, .static yX3_isProduct, .initialized RX3, .code yX3_isProduct cX3_isProduct 1 (some .boolean), .methodLink RX3 60 yX3_in, .static yX3_in, .code yX3_in cX3_in 3 (some .boolean), .methodLink RX3 71 yX3_fails, .instanceMethod yX3_fails, .selects RX3 yX3_fails yX3_fails, .code yX3_fails cX3_fails 2 (some .int)] ++ wsX30)
def wsX3_lays : List Cond := .code yX3_lays cX3_lays 5 (some .int) :: ([.fieldLink RX3 25 "LicenceKeeperModel" "product" "[I", .fieldLink RX3 64 "LicenceKeeperModel" "rights" "I", .fieldLink RX3 28 "LicenceKeeperModel" "measure" "[I", .fieldLink RX3 31 "LicenceKeeperModel" "count" "[I", .fieldLink RX3 40 "LicenceKeeperModel" "last" "[I", .fieldLink RX3 37 "LicenceKeeperModel" "of" "[I", .fieldLink RX3 19 "LicenceKeeperModel" "latest" "[I"] ++ wsX30)
def wsX3_buy : List Cond := .code yX3_buy cX3_buy 5 (some .int) :: ([.fieldLink RX3 56 "LicenceKeeperModel" "thrown" "I", .fieldLink RX3 64 "LicenceKeeperModel" "rights" "I", .fieldLink RX3 85 "LicenceKeeperModel" "now" "I", .methodLink RX3 82 yX3_isProduct, .static yX3_isProduct, .initialized RX3, .code yX3_isProduct cX3_isProduct 1 (some .boolean), .methodLink RX3 60 yX3_in, .static yX3_in, .code yX3_in cX3_in 3 (some .boolean), .methodLink RX3 71 yX3_fails, .instanceMethod yX3_fails, .selects RX3 yX3_fails yX3_fails, .code yX3_fails cX3_fails 2 (some .int), .methodLink RX3 88 yX3_lays, .instanceMethod yX3_lays, .selects RX3 yX3_lays yX3_lays, .code yX3_lays cX3_lays 5 (some .int), .fieldLink RX3 25 "LicenceKeeperModel" "product" "[I", .fieldLink RX3 28 "LicenceKeeperModel" "measure" "[I", .fieldLink RX3 31 "LicenceKeeperModel" "count" "[I", .fieldLink RX3 40 "LicenceKeeperModel" "last" "[I", .fieldLink RX3 37 "LicenceKeeperModel" "of" "[I", .fieldLink RX3 19 "LicenceKeeperModel" "latest" "[I"] ++ wsX30)
def wsX3_upgrade : List Cond := .code yX3_upgrade cX3_upgrade 3 (some .int) :: ([.fieldLink RX3 56 "LicenceKeeperModel" "thrown" "I", .fieldLink RX3 31 "LicenceKeeperModel" "count" "[I", .fieldLink RX3 37 "LicenceKeeperModel" "of" "[I", .fieldLink RX3 19 "LicenceKeeperModel" "latest" "[I", .fieldLink RX3 25 "LicenceKeeperModel" "product" "[I", .fieldLink RX3 64 "LicenceKeeperModel" "rights" "I", .fieldLink RX3 28 "LicenceKeeperModel" "measure" "[I", .fieldLink RX3 40 "LicenceKeeperModel" "last" "[I", .methodLink RX3 92 yX3_isRight, .instanceMethod yX3_isRight, .selects RX3 yX3_isRight yX3_isRight, .initialized RX3, .code yX3_isRight cX3_isRight 2 (some .boolean), .methodLink RX3 60 yX3_in, .static yX3_in, .code yX3_in cX3_in 3 (some .boolean), .methodLink RX3 71 yX3_fails, .instanceMethod yX3_fails, .selects RX3 yX3_fails yX3_fails, .code yX3_fails cX3_fails 2 (some .int), .methodLink RX3 88 yX3_lays, .instanceMethod yX3_lays, .selects RX3 yX3_lays yX3_lays, .code yX3_lays cX3_lays 5 (some .int)] ++ wsX30)
def wsX3_lend : List Cond := .code yX3_lend cX3_lend 3 (some .int) :: ([.fieldLink RX3 56 "LicenceKeeperModel" "thrown" "I", .fieldLink RX3 31 "LicenceKeeperModel" "count" "[I", .fieldLink RX3 34 "LicenceKeeperModel" "lent" "[I", .methodLink RX3 92 yX3_isRight, .instanceMethod yX3_isRight, .selects RX3 yX3_isRight yX3_isRight, .initialized RX3, .code yX3_isRight cX3_isRight 2 (some .boolean), .fieldLink RX3 64 "LicenceKeeperModel" "rights" "I", .methodLink RX3 60 yX3_in, .static yX3_in, .code yX3_in cX3_in 3 (some .boolean), .methodLink RX3 71 yX3_fails, .instanceMethod yX3_fails, .selects RX3 yX3_fails yX3_fails, .code yX3_fails cX3_fails 2 (some .int)] ++ wsX30)
def wsX3_pass : List Cond := .code yX3_pass cX3_pass 2 (some .int) :: ([.fieldLink RX3 56 "LicenceKeeperModel" "thrown" "I", .fieldLink RX3 85 "LicenceKeeperModel" "now" "I", .methodLink RX3 60 yX3_in, .static yX3_in, .initialized RX3, .code yX3_in cX3_in 3 (some .boolean), .methodLink RX3 71 yX3_fails, .instanceMethod yX3_fails, .selects RX3 yX3_fails yX3_fails, .code yX3_fails cX3_fails 2 (some .int)] ++ wsX30)
def wsX3_today : List Cond := .code yX3_today cX3_today 1 (some .int) :: ([.fieldLink RX3 56 "LicenceKeeperModel" "thrown" "I", .fieldLink RX3 85 "LicenceKeeperModel" "now" "I"] ++ wsX30)
def wsX3_rights : List Cond := .code yX3_rights cX3_rights 1 (some .int) :: ([.fieldLink RX3 56 "LicenceKeeperModel" "thrown" "I", .fieldLink RX3 64 "LicenceKeeperModel" "rights" "I"] ++ wsX30)
def wsX3_countOf : List Cond := .code yX3_countOf cX3_countOf 2 (some .int) :: ([.fieldLink RX3 56 "LicenceKeeperModel" "thrown" "I", .fieldLink RX3 31 "LicenceKeeperModel" "count" "[I", .methodLink RX3 92 yX3_isRight, .instanceMethod yX3_isRight, .selects RX3 yX3_isRight yX3_isRight, .initialized RX3, .code yX3_isRight cX3_isRight 2 (some .boolean), .fieldLink RX3 64 "LicenceKeeperModel" "rights" "I", .methodLink RX3 60 yX3_in, .static yX3_in, .code yX3_in cX3_in 3 (some .boolean), .methodLink RX3 71 yX3_fails, .instanceMethod yX3_fails, .selects RX3 yX3_fails yX3_fails, .code yX3_fails cX3_fails 2 (some .int)] ++ wsX30)
def wsX3_versionOf : List Cond := .code yX3_versionOf cX3_versionOf 2 (some .int) :: ([.fieldLink RX3 56 "LicenceKeeperModel" "thrown" "I", .fieldLink RX3 37 "LicenceKeeperModel" "of" "[I", .methodLink RX3 92 yX3_isRight, .instanceMethod yX3_isRight, .selects RX3 yX3_isRight yX3_isRight, .initialized RX3, .code yX3_isRight cX3_isRight 2 (some .boolean), .fieldLink RX3 64 "LicenceKeeperModel" "rights" "I", .methodLink RX3 60 yX3_in, .static yX3_in, .code yX3_in cX3_in 3 (some .boolean), .methodLink RX3 71 yX3_fails, .instanceMethod yX3_fails, .selects RX3 yX3_fails yX3_fails, .code yX3_fails cX3_fails 2 (some .int)] ++ wsX30)
def wsX3_latest : List Cond := .code yX3_latest cX3_latest 2 (some .int) :: ([.fieldLink RX3 56 "LicenceKeeperModel" "thrown" "I", .fieldLink RX3 19 "LicenceKeeperModel" "latest" "[I", .methodLink RX3 82 yX3_isProduct, .static yX3_isProduct, .initialized RX3, .code yX3_isProduct cX3_isProduct 1 (some .boolean), .methodLink RX3 60 yX3_in, .static yX3_in, .code yX3_in cX3_in 3 (some .boolean), .methodLink RX3 71 yX3_fails, .instanceMethod yX3_fails, .selects RX3 yX3_fails yX3_fails, .code yX3_fails cX3_fails 2 (some .int)] ++ wsX30)
def wsX3_hostOf : List Cond := .code yX3_hostOf cX3_hostOf 2 (some .int) :: ([.fieldLink RX3 56 "LicenceKeeperModel" "thrown" "I", .fieldLink RX3 13 "LicenceKeeperModel" "host" "[I", .methodLink RX3 67 yX3_isMachine, .static yX3_isMachine, .initialized RX3, .code yX3_isMachine cX3_isMachine 1 (some .boolean), .methodLink RX3 60 yX3_in, .static yX3_in, .code yX3_in cX3_in 3 (some .boolean), .methodLink RX3 71 yX3_fails, .instanceMethod yX3_fails, .selects RX3 yX3_fails yX3_fails, .code yX3_fails cX3_fails 2 (some .int)] ++ wsX30)
def wsX3_weighs : List Cond := .code yX3_weighs cX3_weighs 3 (some .int) :: ([.fieldLink RX3 16 "LicenceKeeperModel" "version" "[I", .fieldLink RX3 7 "LicenceKeeperModel" "cores" "[I", .fieldLink RX3 22 "LicenceKeeperModel" "price" "[I"] ++ wsX30)
def wsX3_weight : List Cond := .code yX3_weight cX3_weight 3 (some .int) :: ([.fieldLink RX3 56 "LicenceKeeperModel" "thrown" "I", .methodLink RX3 67 yX3_isMachine, .static yX3_isMachine, .initialized RX3, .code yX3_isMachine cX3_isMachine 1 (some .boolean), .methodLink RX3 60 yX3_in, .static yX3_in, .code yX3_in cX3_in 3 (some .boolean), .methodLink RX3 82 yX3_isProduct, .static yX3_isProduct, .code yX3_isProduct cX3_isProduct 1 (some .boolean), .methodLink RX3 95 yX3_weighs, .instanceMethod yX3_weighs, .selects RX3 yX3_weighs yX3_weighs, .code yX3_weighs cX3_weighs 3 (some .int), .fieldLink RX3 16 "LicenceKeeperModel" "version" "[I", .fieldLink RX3 7 "LicenceKeeperModel" "cores" "[I", .fieldLink RX3 22 "LicenceKeeperModel" "price" "[I", .methodLink RX3 71 yX3_fails, .instanceMethod yX3_fails, .selects RX3 yX3_fails yX3_fails, .code yX3_fails cX3_fails 2 (some .int)] ++ wsX30)
def wsX3_covered : List Cond := .code yX3_covered cX3_covered 7 (some .int) :: ([.fieldLink RX3 28 "LicenceKeeperModel" "measure" "[I", .fieldLink RX3 13 "LicenceKeeperModel" "host" "[I", .fieldLink RX3 16 "LicenceKeeperModel" "version" "[I", .fieldLink RX3 25 "LicenceKeeperModel" "product" "[I", .fieldLink RX3 37 "LicenceKeeperModel" "of" "[I"] ++ wsX30)
def wsX3_covers_r1 : List Cond := [Cond.fieldLink RX3 56 "LicenceKeeperModel" "thrown" "I", Cond.methodLink RX3 92 yX3_isRight, Cond.instanceMethod yX3_isRight, Cond.selects RX3 yX3_isRight yX3_isRight, Cond.initialized RX3, Cond.code yX3_isRight cX3_isRight 2 (some .boolean), Cond.fieldLink RX3 64 "LicenceKeeperModel" "rights" "I", Cond.methodLink RX3 60 yX3_in, Cond.static yX3_in, Cond.code yX3_in cX3_in 3 (some .boolean), Cond.methodLink RX3 67 yX3_isMachine, Cond.static yX3_isMachine, Cond.code yX3_isMachine cX3_isMachine 1 (some .boolean), Cond.methodLink RX3 98 yX3_covered, Cond.instanceMethod yX3_covered, Cond.selects RX3 yX3_covered yX3_covered, Cond.code yX3_covered cX3_covered 7 (some .int), Cond.fieldLink RX3 28 "LicenceKeeperModel" "measure" "[I", Cond.fieldLink RX3 13 "LicenceKeeperModel" "host" "[I", Cond.fieldLink RX3 16 "LicenceKeeperModel" "version" "[I", Cond.fieldLink RX3 25 "LicenceKeeperModel" "product" "[I", Cond.fieldLink RX3 37 "LicenceKeeperModel" "of" "[I", Cond.methodLink RX3 71 yX3_fails, Cond.instanceMethod yX3_fails]
def wsX3_covers_r2 : List Cond := [Cond.selects RX3 yX3_fails yX3_fails, Cond.code yX3_fails cX3_fails 2 (some .int)]
def wsX3_covers : List Cond := .code yX3_covers cX3_covers 3 (some .int) :: ((wsX3_covers_r1 ++ wsX3_covers_r2) ++ wsX30)
def wsX3_spreads : List Cond := .code yX3_spreads cX3_spreads 5 none :: ([.fieldLink RX3 28 "LicenceKeeperModel" "measure" "[I", .fieldLink RX3 7 "LicenceKeeperModel" "cores" "[I", .fieldLink RX3 50 "LicenceKeeperModel" "takes" "[I", .fieldLink RX3 53 "LicenceKeeperModel" "spread" "[I", .methodLink RX3 98 yX3_covered, .instanceMethod yX3_covered, .selects RX3 yX3_covered yX3_covered, .initialized RX3, .code yX3_covered cX3_covered 7 (some .int), .fieldLink RX3 13 "LicenceKeeperModel" "host" "[I", .fieldLink RX3 16 "LicenceKeeperModel" "version" "[I", .fieldLink RX3 25 "LicenceKeeperModel" "product" "[I", .fieldLink RX3 37 "LicenceKeeperModel" "of" "[I"] ++ wsX30)
def wsX3_least_r1 : List Cond := [Cond.fieldLink RX3 43 "LicenceKeeperModel" "can" "[Z", Cond.fieldLink RX3 64 "LicenceKeeperModel" "rights" "I", Cond.fieldLink RX3 25 "LicenceKeeperModel" "product" "[I", Cond.fieldLink RX3 31 "LicenceKeeperModel" "count" "[I", Cond.fieldLink RX3 47 "LicenceKeeperModel" "then" "[Z", Cond.constant RX3 105 (65536), Cond.fieldLink RX3 50 "LicenceKeeperModel" "takes" "[I", Cond.fieldLink RX3 53 "LicenceKeeperModel" "spread" "[I", Cond.fieldLink RX3 16 "LicenceKeeperModel" "version" "[I", Cond.fieldLink RX3 106 "LicenceKeeperModel" "bare" "I", Cond.methodLink RX3 101 yX3_spreads, Cond.instanceMethod yX3_spreads, Cond.selects RX3 yX3_spreads yX3_spreads, Cond.initialized RX3, Cond.code yX3_spreads cX3_spreads 5 none, Cond.fieldLink RX3 28 "LicenceKeeperModel" "measure" "[I", Cond.fieldLink RX3 7 "LicenceKeeperModel" "cores" "[I", Cond.methodLink RX3 98 yX3_covered, Cond.instanceMethod yX3_covered, Cond.selects RX3 yX3_covered yX3_covered, Cond.code yX3_covered cX3_covered 7 (some .int), Cond.fieldLink RX3 13 "LicenceKeeperModel" "host" "[I", Cond.fieldLink RX3 37 "LicenceKeeperModel" "of" "[I", Cond.methodLink RX3 95 yX3_weighs]
def wsX3_least_r2 : List Cond := [Cond.instanceMethod yX3_weighs, Cond.selects RX3 yX3_weighs yX3_weighs, Cond.code yX3_weighs cX3_weighs 3 (some .int), Cond.fieldLink RX3 22 "LicenceKeeperModel" "price" "[I"]
def wsX3_least : List Cond := .code yX3_least cX3_least 8 (some .int) :: ((wsX3_least_r1 ++ wsX3_least_r2) ++ wsX30)
def wsX3_gap_r1 : List Cond := [Cond.fieldLink RX3 56 "LicenceKeeperModel" "thrown" "I", Cond.methodLink RX3 82 yX3_isProduct, Cond.static yX3_isProduct, Cond.initialized RX3, Cond.code yX3_isProduct cX3_isProduct 1 (some .boolean), Cond.methodLink RX3 60 yX3_in, Cond.static yX3_in, Cond.code yX3_in cX3_in 3 (some .boolean), Cond.methodLink RX3 109 yX3_least, Cond.instanceMethod yX3_least, Cond.selects RX3 yX3_least yX3_least, Cond.code yX3_least cX3_least 8 (some .int), Cond.fieldLink RX3 43 "LicenceKeeperModel" "can" "[Z", Cond.fieldLink RX3 64 "LicenceKeeperModel" "rights" "I", Cond.fieldLink RX3 25 "LicenceKeeperModel" "product" "[I", Cond.fieldLink RX3 31 "LicenceKeeperModel" "count" "[I", Cond.fieldLink RX3 47 "LicenceKeeperModel" "then" "[Z", Cond.constant RX3 105 (65536), Cond.fieldLink RX3 50 "LicenceKeeperModel" "takes" "[I", Cond.fieldLink RX3 53 "LicenceKeeperModel" "spread" "[I", Cond.fieldLink RX3 16 "LicenceKeeperModel" "version" "[I", Cond.fieldLink RX3 106 "LicenceKeeperModel" "bare" "I", Cond.methodLink RX3 101 yX3_spreads, Cond.instanceMethod yX3_spreads]
def wsX3_gap_r2 : List Cond := [Cond.selects RX3 yX3_spreads yX3_spreads, Cond.code yX3_spreads cX3_spreads 5 none, Cond.fieldLink RX3 28 "LicenceKeeperModel" "measure" "[I", Cond.fieldLink RX3 7 "LicenceKeeperModel" "cores" "[I", Cond.methodLink RX3 98 yX3_covered, Cond.instanceMethod yX3_covered, Cond.selects RX3 yX3_covered yX3_covered, Cond.code yX3_covered cX3_covered 7 (some .int), Cond.fieldLink RX3 13 "LicenceKeeperModel" "host" "[I", Cond.fieldLink RX3 37 "LicenceKeeperModel" "of" "[I", Cond.methodLink RX3 95 yX3_weighs, Cond.instanceMethod yX3_weighs, Cond.selects RX3 yX3_weighs yX3_weighs, Cond.code yX3_weighs cX3_weighs 3 (some .int), Cond.fieldLink RX3 22 "LicenceKeeperModel" "price" "[I", Cond.methodLink RX3 71 yX3_fails, Cond.instanceMethod yX3_fails, Cond.selects RX3 yX3_fails yX3_fails, Cond.code yX3_fails cX3_fails 2 (some .int)]
def wsX3_gap : List Cond := .code yX3_gap cX3_gap 2 (some .int) :: ((wsX3_gap_r1 ++ wsX3_gap_r2) ++ wsX30)
def wsX3_uncovered_r1 : List Cond := [Cond.fieldLink RX3 56 "LicenceKeeperModel" "thrown" "I", Cond.fieldLink RX3 106 "LicenceKeeperModel" "bare" "I", Cond.methodLink RX3 82 yX3_isProduct, Cond.static yX3_isProduct, Cond.initialized RX3, Cond.code yX3_isProduct cX3_isProduct 1 (some .boolean), Cond.methodLink RX3 60 yX3_in, Cond.static yX3_in, Cond.code yX3_in cX3_in 3 (some .boolean), Cond.methodLink RX3 71 yX3_fails, Cond.instanceMethod yX3_fails, Cond.selects RX3 yX3_fails yX3_fails, Cond.code yX3_fails cX3_fails 2 (some .int), Cond.methodLink RX3 109 yX3_least, Cond.instanceMethod yX3_least, Cond.selects RX3 yX3_least yX3_least, Cond.code yX3_least cX3_least 8 (some .int), Cond.fieldLink RX3 43 "LicenceKeeperModel" "can" "[Z", Cond.fieldLink RX3 64 "LicenceKeeperModel" "rights" "I", Cond.fieldLink RX3 25 "LicenceKeeperModel" "product" "[I", Cond.fieldLink RX3 31 "LicenceKeeperModel" "count" "[I", Cond.fieldLink RX3 47 "LicenceKeeperModel" "then" "[Z", Cond.constant RX3 105 (65536), Cond.fieldLink RX3 50 "LicenceKeeperModel" "takes" "[I"]
def wsX3_uncovered_r2 : List Cond := [Cond.fieldLink RX3 53 "LicenceKeeperModel" "spread" "[I", Cond.fieldLink RX3 16 "LicenceKeeperModel" "version" "[I", Cond.methodLink RX3 101 yX3_spreads, Cond.instanceMethod yX3_spreads, Cond.selects RX3 yX3_spreads yX3_spreads, Cond.code yX3_spreads cX3_spreads 5 none, Cond.fieldLink RX3 28 "LicenceKeeperModel" "measure" "[I", Cond.fieldLink RX3 7 "LicenceKeeperModel" "cores" "[I", Cond.methodLink RX3 98 yX3_covered, Cond.instanceMethod yX3_covered, Cond.selects RX3 yX3_covered yX3_covered, Cond.code yX3_covered cX3_covered 7 (some .int), Cond.fieldLink RX3 13 "LicenceKeeperModel" "host" "[I", Cond.fieldLink RX3 37 "LicenceKeeperModel" "of" "[I", Cond.methodLink RX3 95 yX3_weighs, Cond.instanceMethod yX3_weighs, Cond.selects RX3 yX3_weighs yX3_weighs, Cond.code yX3_weighs cX3_weighs 3 (some .int), Cond.fieldLink RX3 22 "LicenceKeeperModel" "price" "[I"]
def wsX3_uncovered : List Cond := .code yX3_uncovered cX3_uncovered 3 (some .int) :: ((wsX3_uncovered_r1 ++ wsX3_uncovered_r2) ++ wsX30)
def wsX3_gapByAll_r1 : List Cond := [Cond.fieldLink RX3 56 "LicenceKeeperModel" "thrown" "I", Cond.fieldLink RX3 64 "LicenceKeeperModel" "rights" "I", Cond.fieldLink RX3 25 "LicenceKeeperModel" "product" "[I", Cond.fieldLink RX3 31 "LicenceKeeperModel" "count" "[I", Cond.methodLink RX3 82 yX3_isProduct, Cond.static yX3_isProduct, Cond.initialized RX3, Cond.code yX3_isProduct cX3_isProduct 1 (some .boolean), Cond.methodLink RX3 60 yX3_in, Cond.static yX3_in, Cond.code yX3_in cX3_in 3 (some .boolean), Cond.methodLink RX3 71 yX3_fails, Cond.instanceMethod yX3_fails, Cond.selects RX3 yX3_fails yX3_fails, Cond.code yX3_fails cX3_fails 2 (some .int), Cond.methodLink RX3 109 yX3_least, Cond.instanceMethod yX3_least, Cond.selects RX3 yX3_least yX3_least, Cond.code yX3_least cX3_least 8 (some .int), Cond.fieldLink RX3 43 "LicenceKeeperModel" "can" "[Z", Cond.fieldLink RX3 47 "LicenceKeeperModel" "then" "[Z", Cond.constant RX3 105 (65536), Cond.fieldLink RX3 50 "LicenceKeeperModel" "takes" "[I", Cond.fieldLink RX3 53 "LicenceKeeperModel" "spread" "[I"]
def wsX3_gapByAll_r2 : List Cond := [Cond.fieldLink RX3 16 "LicenceKeeperModel" "version" "[I", Cond.fieldLink RX3 106 "LicenceKeeperModel" "bare" "I", Cond.methodLink RX3 101 yX3_spreads, Cond.instanceMethod yX3_spreads, Cond.selects RX3 yX3_spreads yX3_spreads, Cond.code yX3_spreads cX3_spreads 5 none, Cond.fieldLink RX3 28 "LicenceKeeperModel" "measure" "[I", Cond.fieldLink RX3 7 "LicenceKeeperModel" "cores" "[I", Cond.methodLink RX3 98 yX3_covered, Cond.instanceMethod yX3_covered, Cond.selects RX3 yX3_covered yX3_covered, Cond.code yX3_covered cX3_covered 7 (some .int), Cond.fieldLink RX3 13 "LicenceKeeperModel" "host" "[I", Cond.fieldLink RX3 37 "LicenceKeeperModel" "of" "[I", Cond.methodLink RX3 95 yX3_weighs, Cond.instanceMethod yX3_weighs, Cond.selects RX3 yX3_weighs yX3_weighs, Cond.code yX3_weighs cX3_weighs 3 (some .int), Cond.fieldLink RX3 22 "LicenceKeeperModel" "price" "[I"]
def wsX3_gapByAll : List Cond := .code yX3_gapByAll cX3_gapByAll 4 (some .int) :: ((wsX3_gapByAll_r1 ++ wsX3_gapByAll_r2) ++ wsX30)
def wsX3_gapIf_r1 : List Cond := [Cond.fieldLink RX3 56 "LicenceKeeperModel" "thrown" "I", Cond.fieldLink RX3 13 "LicenceKeeperModel" "host" "[I", Cond.methodLink RX3 82 yX3_isProduct, Cond.static yX3_isProduct, Cond.initialized RX3, Cond.code yX3_isProduct cX3_isProduct 1 (some .boolean), Cond.methodLink RX3 60 yX3_in, Cond.static yX3_in, Cond.code yX3_in cX3_in 3 (some .boolean), Cond.methodLink RX3 78 yX3_refuses, Cond.instanceMethod yX3_refuses, Cond.selects RX3 yX3_refuses yX3_refuses, Cond.code yX3_refuses cX3_refuses 3 (some .int), Cond.methodLink RX3 67 yX3_isMachine, Cond.static yX3_isMachine, Cond.code yX3_isMachine cX3_isMachine 1 (some .boolean), Cond.methodLink RX3 75 yX3_isHost, Cond.instanceMethod yX3_isHost, Cond.selects RX3 yX3_isHost yX3_isHost, Cond.code yX3_isHost cX3_isHost 4 (some .boolean), Cond.methodLink RX3 109 yX3_least, Cond.instanceMethod yX3_least, Cond.selects RX3 yX3_least yX3_least, Cond.code yX3_least cX3_least 8 (some .int)]
def wsX3_gapIf_r2 : List Cond := [Cond.fieldLink RX3 43 "LicenceKeeperModel" "can" "[Z", Cond.fieldLink RX3 64 "LicenceKeeperModel" "rights" "I", Cond.fieldLink RX3 25 "LicenceKeeperModel" "product" "[I", Cond.fieldLink RX3 31 "LicenceKeeperModel" "count" "[I", Cond.fieldLink RX3 47 "LicenceKeeperModel" "then" "[Z", Cond.constant RX3 105 (65536), Cond.fieldLink RX3 50 "LicenceKeeperModel" "takes" "[I", Cond.fieldLink RX3 53 "LicenceKeeperModel" "spread" "[I", Cond.fieldLink RX3 16 "LicenceKeeperModel" "version" "[I", Cond.fieldLink RX3 106 "LicenceKeeperModel" "bare" "I", Cond.methodLink RX3 101 yX3_spreads, Cond.instanceMethod yX3_spreads, Cond.selects RX3 yX3_spreads yX3_spreads, Cond.code yX3_spreads cX3_spreads 5 none, Cond.fieldLink RX3 28 "LicenceKeeperModel" "measure" "[I", Cond.fieldLink RX3 7 "LicenceKeeperModel" "cores" "[I", Cond.methodLink RX3 98 yX3_covered, Cond.instanceMethod yX3_covered, Cond.selects RX3 yX3_covered yX3_covered, Cond.code yX3_covered cX3_covered 7 (some .int), Cond.fieldLink RX3 37 "LicenceKeeperModel" "of" "[I", Cond.methodLink RX3 95 yX3_weighs, Cond.instanceMethod yX3_weighs, Cond.selects RX3 yX3_weighs yX3_weighs]
def wsX3_gapIf_r3 : List Cond := [Cond.code yX3_weighs cX3_weighs 3 (some .int), Cond.fieldLink RX3 22 "LicenceKeeperModel" "price" "[I"]
def wsX3_gapIf : List Cond := .code yX3_gapIf cX3_gapIf 6 (some .int) :: ((wsX3_gapIf_r1 ++ (wsX3_gapIf_r2 ++ wsX3_gapIf_r3)) ++ wsX30)
def wsX3_spare_r1 : List Cond := [Cond.fieldLink RX3 56 "LicenceKeeperModel" "thrown" "I", Cond.fieldLink RX3 31 "LicenceKeeperModel" "count" "[I", Cond.fieldLink RX3 25 "LicenceKeeperModel" "product" "[I", Cond.methodLink RX3 92 yX3_isRight, Cond.instanceMethod yX3_isRight, Cond.selects RX3 yX3_isRight yX3_isRight, Cond.initialized RX3, Cond.code yX3_isRight cX3_isRight 2 (some .boolean), Cond.fieldLink RX3 64 "LicenceKeeperModel" "rights" "I", Cond.methodLink RX3 60 yX3_in, Cond.static yX3_in, Cond.code yX3_in cX3_in 3 (some .boolean), Cond.methodLink RX3 71 yX3_fails, Cond.instanceMethod yX3_fails, Cond.selects RX3 yX3_fails yX3_fails, Cond.code yX3_fails cX3_fails 2 (some .int), Cond.methodLink RX3 109 yX3_least, Cond.instanceMethod yX3_least, Cond.selects RX3 yX3_least yX3_least, Cond.code yX3_least cX3_least 8 (some .int), Cond.fieldLink RX3 43 "LicenceKeeperModel" "can" "[Z", Cond.fieldLink RX3 47 "LicenceKeeperModel" "then" "[Z", Cond.constant RX3 105 (65536), Cond.fieldLink RX3 50 "LicenceKeeperModel" "takes" "[I"]
def wsX3_spare_r2 : List Cond := [Cond.fieldLink RX3 53 "LicenceKeeperModel" "spread" "[I", Cond.fieldLink RX3 16 "LicenceKeeperModel" "version" "[I", Cond.fieldLink RX3 106 "LicenceKeeperModel" "bare" "I", Cond.methodLink RX3 101 yX3_spreads, Cond.instanceMethod yX3_spreads, Cond.selects RX3 yX3_spreads yX3_spreads, Cond.code yX3_spreads cX3_spreads 5 none, Cond.fieldLink RX3 28 "LicenceKeeperModel" "measure" "[I", Cond.fieldLink RX3 7 "LicenceKeeperModel" "cores" "[I", Cond.methodLink RX3 98 yX3_covered, Cond.instanceMethod yX3_covered, Cond.selects RX3 yX3_covered yX3_covered, Cond.code yX3_covered cX3_covered 7 (some .int), Cond.fieldLink RX3 13 "LicenceKeeperModel" "host" "[I", Cond.fieldLink RX3 37 "LicenceKeeperModel" "of" "[I", Cond.methodLink RX3 95 yX3_weighs, Cond.instanceMethod yX3_weighs, Cond.selects RX3 yX3_weighs yX3_weighs, Cond.code yX3_weighs cX3_weighs 3 (some .int), Cond.fieldLink RX3 22 "LicenceKeeperModel" "price" "[I"]
def wsX3_spare : List Cond := .code yX3_spare cX3_spare 7 (some .int) :: ((wsX3_spare_r1 ++ wsX3_spare_r2) ++ wsX30)
def wsJ9_max_7cf53 : List Cond := .code yJ9_max_7cf53 cJ9_max_7cf53 2 (some .int) :: ([])
def wsJ9_min_7cf53 : List Cond := .code yJ9_min_7cf53 cJ9_min_7cf53 2 (some .int) :: ([])
def wsL_setCores : List Cond := .codeWith yL_setCores cL_setCores 5 (some .int) [(0, 10, 13, 13), (0, 10, 17, 15)] :: ([.classLink RL 13 "java/lang/IndexOutOfBoundsException", .classLink RL 15 "java/lang/IllegalArgumentException", .methodLink RL 7 yX2_setCores, .instanceMethod yX2_setCores, .selects RX2 yX2_setCores yX2_setCores, .initialized RX2, .code yX2_setCores cX2_setCores 4 (some .int), .fieldLink RX2 9 "LicenceKeeper" "cores" "[I", .methodLink RX2 54 yX2_requireMachine, .static yX2_requireMachine, .code yX2_requireMachine cX2_requireMachine 1 none, .classLink RX2 171 "java/lang/IndexOutOfBoundsException", .initialized "java/lang/IndexOutOfBoundsException", .methodLink RX2 58 yX2_requireRange, .static yX2_requireRange, .code yX2_requireRange cX2_requireRange 3 none, .classLink RX2 178 "java/lang/IllegalArgumentException", .initialized "java/lang/IllegalArgumentException"] ++ wsX20 ++ (vx_atS RX2 175 "java/lang/IndexOutOfBoundsException" ["java/lang/RuntimeException", "java/lang/Exception"]).filter goodWord ++ (vx_atS RX2 182 "java/lang/IllegalArgumentException" ["java/lang/RuntimeException", "java/lang/Exception"]).filter goodWord)
def wsL_move_r1 : List Cond := [Cond.classLink RL 13 "java/lang/IndexOutOfBoundsException", Cond.classLink RL 15 "java/lang/IllegalArgumentException", Cond.classLink RL 20 "java/lang/IllegalStateException", Cond.methodLink RL 17 yX2_move, Cond.instanceMethod yX2_move, Cond.selects RX2 yX2_move yX2_move, Cond.initialized RX2, Cond.code yX2_move cX2_move 4 (some .int), Cond.fieldLink RX2 13 "LicenceKeeper" "hosts" "[I", Cond.methodLink RX2 62 yX2_requireMovable, Cond.instanceMethod yX2_requireMovable, Cond.selects RX2 yX2_requireMovable yX2_requireMovable, Cond.code yX2_requireMovable cX2_requireMovable 3 none, Cond.classLink RX2 178 "java/lang/IllegalArgumentException", Cond.initialized "java/lang/IllegalArgumentException", Cond.classLink RX2 69 "java/lang/IllegalStateException", Cond.initialized "java/lang/IllegalStateException", Cond.methodLink RX2 54 yX2_requireMachine, Cond.static yX2_requireMachine, Cond.code yX2_requireMachine cX2_requireMachine 1 none, Cond.classLink RX2 171 "java/lang/IndexOutOfBoundsException", Cond.initialized "java/lang/IndexOutOfBoundsException", Cond.methodLink RX2 189 yX2_isHost, Cond.instanceMethod yX2_isHost]
def wsL_move_r2 : List Cond := [Cond.selects RX2 yX2_isHost yX2_isHost, Cond.code yX2_isHost cX2_isHost 3 (some .boolean)]
def wsL_move : List Cond := .codeWith yL_move cL_move 5 (some .int) [(0, 10, 13, 13), (0, 10, 17, 15), (0, 10, 21, 20)] :: ((wsL_move_r1 ++ wsL_move_r2) ++ wsX20 ++ (vx_atS RX2 182 "java/lang/IllegalArgumentException" ["java/lang/RuntimeException", "java/lang/Exception"]).filter goodWord ++ (vx_atS RX2 73 "java/lang/IllegalStateException" ["java/lang/RuntimeException", "java/lang/Exception"]).filter goodWord ++ (vx_atS RX2 175 "java/lang/IndexOutOfBoundsException" ["java/lang/RuntimeException", "java/lang/Exception"]).filter goodWord)
def wsL_find : List Cond := .codeWith yL_find cL_find 6 (some .int) [(0, 12, 15, 13), (0, 12, 19, 15)] :: ([.classLink RL 13 "java/lang/IndexOutOfBoundsException", .classLink RL 15 "java/lang/IllegalArgumentException", .methodLink RL 22 yX2_find, .instanceMethod yX2_find, .selects RX2 yX2_find yX2_find, .initialized RX2, .code yX2_find cX2_find 5 (some .int), .fieldLink RX2 24 "LicenceKeeper" "latestVersions" "[I", .fieldLink RX2 21 "LicenceKeeper" "found" "[[I", .methodLink RX2 54 yX2_requireMachine, .static yX2_requireMachine, .code yX2_requireMachine cX2_requireMachine 1 none, .classLink RX2 171 "java/lang/IndexOutOfBoundsException", .initialized "java/lang/IndexOutOfBoundsException", .methodLink RX2 66 yX2_requireProduct, .static yX2_requireProduct, .code yX2_requireProduct cX2_requireProduct 1 none, .methodLink RX2 58 yX2_requireRange, .static yX2_requireRange, .code yX2_requireRange cX2_requireRange 3 none, .classLink RX2 178 "java/lang/IllegalArgumentException", .initialized "java/lang/IllegalArgumentException"] ++ wsX20 ++ (vx_atS RX2 175 "java/lang/IndexOutOfBoundsException" ["java/lang/RuntimeException", "java/lang/Exception"]).filter goodWord ++ (vx_atS RX2 182 "java/lang/IllegalArgumentException" ["java/lang/RuntimeException", "java/lang/Exception"]).filter goodWord)
def wsL_setPrice : List Cond := .codeWith yL_setPrice cL_setPrice 5 (some .int) [(0, 10, 13, 13), (0, 10, 17, 15)] :: ([.classLink RL 13 "java/lang/IndexOutOfBoundsException", .classLink RL 15 "java/lang/IllegalArgumentException", .methodLink RL 26 yX2_setPrice, .instanceMethod yX2_setPrice, .selects RX2 yX2_setPrice yX2_setPrice, .initialized RX2, .code yX2_setPrice cX2_setPrice 4 (some .int), .fieldLink RX2 27 "LicenceKeeper" "prices" "[I", .methodLink RX2 66 yX2_requireProduct, .static yX2_requireProduct, .code yX2_requireProduct cX2_requireProduct 1 none, .classLink RX2 171 "java/lang/IndexOutOfBoundsException", .initialized "java/lang/IndexOutOfBoundsException", .methodLink RX2 58 yX2_requireRange, .static yX2_requireRange, .code yX2_requireRange cX2_requireRange 3 none, .classLink RX2 178 "java/lang/IllegalArgumentException", .initialized "java/lang/IllegalArgumentException"] ++ wsX20 ++ (vx_atS RX2 175 "java/lang/IndexOutOfBoundsException" ["java/lang/RuntimeException", "java/lang/Exception"]).filter goodWord ++ (vx_atS RX2 182 "java/lang/IllegalArgumentException" ["java/lang/RuntimeException", "java/lang/Exception"]).filter goodWord)
def wsL_release_r1 : List Cond := [Cond.classLink RL 13 "java/lang/IndexOutOfBoundsException", Cond.classLink RL 20 "java/lang/IllegalStateException", Cond.methodLink RL 29 yX2_release, Cond.instanceMethod yX2_release, Cond.selects RX2 yX2_release yX2_release, Cond.initialized RX2, Cond.code yX2_release cX2_release 6 (some .int), Cond.classLink RX2 69 "java/lang/IllegalStateException", Cond.initialized "java/lang/IllegalStateException", Cond.fieldLink RX2 24 "LicenceKeeper" "latestVersions" "[I", Cond.fieldLink RX2 33 "LicenceKeeper" "held" "Ljava/util/ArrayList;", Cond.classLink RX2 84 "LicenceKeeper$Right", Cond.fieldLink RX2 86 "LicenceKeeper$Right" "product" "I", Cond.fieldLink RX2 89 "LicenceKeeper$Right" "version" "I", Cond.fieldLink RX2 92 "LicenceKeeper$Right" "lastCareDay" "I", Cond.fieldLink RX2 44 "LicenceKeeper" "day" "I", Cond.methodLink RX2 66 yX2_requireProduct, Cond.static yX2_requireProduct, Cond.code yX2_requireProduct cX2_requireProduct 1 none, Cond.classLink RX2 171 "java/lang/IndexOutOfBoundsException", Cond.initialized "java/lang/IndexOutOfBoundsException", Cond.methodLink RX2 76 yJx4a65c_size_8abf5, Cond.instanceMethod yJx4a65c_size_8abf5, Cond.selects RJx4a65c yJx4a65c_size_8abf5 yJx4a65c_size_8abf5]
def wsL_release_r2 : List Cond := [Cond.initialized RJx4a65c, Cond.code yJx4a65c_size_8abf5 cJx4a65c_size_8abf5 1 (some .int), Cond.fieldLink RJx4a65c 48 "java/util/ArrayList" "size" "I", Cond.methodLink RX2 80 yJx4a65c_get_915e3, Cond.instanceMethod yJx4a65c_get_915e3, Cond.selects RJx4a65c yJx4a65c_get_915e3 yJx4a65c_get_915e3, Cond.code yJx4a65c_get_915e3 cJx4a65c_get_915e3 2 (some (.object "java/lang/Object")), Cond.methodLink RJx4a65c 118 yJ15_checkIndex_7cf53, Cond.static yJ15_checkIndex_7cf53, Cond.initialized RJ15, Cond.code yJ15_checkIndex_7cf53 cJ15_checkIndex_7cf53 2 (some .int), Cond.methodLink RJ15 105 yJ3_checkIndex_8e157, Cond.static yJ3_checkIndex_8e157, Cond.initialized RJ3, Cond.code yJ3_checkIndex_8e157 cJ3_checkIndex_8e157 3 (some .int), Cond.methodLink RJx4a65c 123 yJx4a65c_elementData_915e3, Cond.instanceMethod yJx4a65c_elementData_915e3, Cond.selects RJx4a65c yJx4a65c_elementData_915e3 yJx4a65c_elementData_915e3, Cond.code yJx4a65c_elementData_915e3 cJx4a65c_elementData_915e3 2 (some (.object "java/lang/Object")), Cond.fieldLink RJx4a65c 9 "java/util/ArrayList" "elementData" "[Ljava/lang/Object;"]
def wsL_release : List Cond := .codeWith yL_release cL_release 4 (some .int) [(0, 9, 12, 13), (0, 9, 15, 20)] :: ((wsL_release_r1 ++ wsL_release_r2) ++ wsX20 ++ wsX10 ++ wsJx4a65c0 ++ (vx_atS RX2 73 "java/lang/IllegalStateException" ["java/lang/RuntimeException", "java/lang/Exception"]).filter goodWord ++ (vx_atS RX2 175 "java/lang/IndexOutOfBoundsException" ["java/lang/RuntimeException", "java/lang/Exception"]).filter goodWord)
def wsL_buy_r1 : List Cond := [Cond.classLink RL 13 "java/lang/IndexOutOfBoundsException", Cond.classLink RL 15 "java/lang/IllegalArgumentException", Cond.classLink RL 20 "java/lang/IllegalStateException", Cond.methodLink RL 33 yX2_buy, Cond.instanceMethod yX2_buy, Cond.selects RX2 yX2_buy yX2_buy, Cond.initialized RX2, Cond.code yX2_buy cX2_buy 5 (some .int), Cond.fieldLink RX2 44 "LicenceKeeper" "day" "I", Cond.methodLink RX2 66 yX2_requireProduct, Cond.static yX2_requireProduct, Cond.code yX2_requireProduct cX2_requireProduct 1 none, Cond.classLink RX2 171 "java/lang/IndexOutOfBoundsException", Cond.initialized "java/lang/IndexOutOfBoundsException", Cond.methodLink RX2 58 yX2_requireRange, Cond.static yX2_requireRange, Cond.code yX2_requireRange cX2_requireRange 3 none, Cond.classLink RX2 178 "java/lang/IllegalArgumentException", Cond.initialized "java/lang/IllegalArgumentException", Cond.methodLink RX2 95 yX2_requireRoomForRight, Cond.instanceMethod yX2_requireRoomForRight, Cond.selects RX2 yX2_requireRoomForRight yX2_requireRoomForRight, Cond.code yX2_requireRoomForRight cX2_requireRoomForRight 1 none, Cond.classLink RX2 69 "java/lang/IllegalStateException"]
def wsL_buy_r2 : List Cond := [Cond.initialized "java/lang/IllegalStateException", Cond.fieldLink RX2 33 "LicenceKeeper" "held" "Ljava/util/ArrayList;", Cond.methodLink RX2 76 yJx4a65c_size_8abf5, Cond.instanceMethod yJx4a65c_size_8abf5, Cond.selects RJx4a65c yJx4a65c_size_8abf5 yJx4a65c_size_8abf5, Cond.initialized RJx4a65c, Cond.code yJx4a65c_size_8abf5 cJx4a65c_size_8abf5 1 (some .int), Cond.fieldLink RJx4a65c 48 "java/util/ArrayList" "size" "I", Cond.methodLink RX2 98 yX2_addRight, Cond.instanceMethod yX2_addRight, Cond.selects RX2 yX2_addRight yX2_addRight, Cond.code yX2_addRight cX2_addRight 5 (some .int), Cond.classLink RX2 84 RX1, Cond.instantiable RX1 6, Cond.initialized RX1, Cond.fieldLink RX2 24 "LicenceKeeper" "latestVersions" "[I", Cond.methodLink RX2 199 yX1_init, Cond.instanceMethod yX1_init, Cond.code yX1_init cX1_init 6 none, Cond.methodLink RX1 1 objectInit, Cond.instanceMethod objectInit, Cond.code objectInit ⟨#[0xb1]⟩ 1 none, Cond.fieldLink RX1 7 "LicenceKeeper$Right" "lent" "I", Cond.fieldLink RX1 13 "LicenceKeeper$Right" "product" "I"]
def wsL_buy_r3 : List Cond := [Cond.fieldLink RX1 16 "LicenceKeeper$Right" "measure" "I", Cond.fieldLink RX1 19 "LicenceKeeper$Right" "count" "I", Cond.fieldLink RX1 22 "LicenceKeeper$Right" "version" "I", Cond.fieldLink RX1 25 "LicenceKeeper$Right" "lastCareDay" "I", Cond.methodLink RX2 202 yJx4a65c_add_9ea2d, Cond.instanceMethod yJx4a65c_add_9ea2d, Cond.selects RJx4a65c yJx4a65c_add_9ea2d yJx4a65c_add_9ea2d, Cond.code yJx4a65c_add_9ea2d cJx4a65c_add_9ea2d 2 (some .boolean), Cond.fieldLink RJx4a65c 63 "java/util/ArrayList" "modCount" "I", Cond.sameField "java/util/ArrayList" "java/util/AbstractList" "modCount" "I", Cond.fieldLink RJx4a65c 9 "java/util/ArrayList" "elementData" "[Ljava/lang/Object;", Cond.methodLink RJx4a65c 131 yJx4a65c_add_72be8, Cond.instanceMethod yJx4a65c_add_72be8, Cond.selects RJx4a65c yJx4a65c_add_72be8 yJx4a65c_add_72be8, Cond.code yJx4a65c_add_72be8 cJx4a65c_add_72be8 4 none, Cond.methodLink RJx4a65c 129 yJx4a65c_grow_d5877, Cond.instanceMethod yJx4a65c_grow_d5877, Cond.selects RJx4a65c yJx4a65c_grow_d5877 yJx4a65c_grow_d5877, Cond.code yJx4a65c_grow_d5877 cJx4a65c_grow_d5877 1 (some (.array (.object "java/lang/Object"))), Cond.methodLink RJx4a65c 69 yJx4a65c_grow_92f84, Cond.instanceMethod yJx4a65c_grow_92f84, Cond.selects RJx4a65c yJx4a65c_grow_92f84 yJx4a65c_grow_92f84, Cond.code yJx4a65c_grow_92f84 cJx4a65c_grow_92f84 4 (some (.array (.object "java/lang/Object"))), Cond.fieldLink RJx4a65c 39 "java/util/ArrayList" "DEFAULTCAPACITY_EMPTY_ELEMENTDATA" "[Ljava/lang/Object;"]
def wsL_buy_r4 : List Cond := [Cond.methodLink RJx4a65c 79 Lib.Math.max.name, Cond.static Lib.Math.max.name, Cond.initialized "java/lang/Math", Cond.code Lib.Math.max.name Lib.Math.max.code 2 (some .int), Cond.classLink RJx4a65c 7 "java/lang/Object", Cond.methodLink RJx4a65c 73 yJ8_newLength_cabcc, Cond.static yJ8_newLength_cabcc, Cond.initialized RJ8, Cond.code yJ8_newLength_cabcc cJ8_newLength_cabcc 4 (some .int), Cond.methodLink RJ8 194 Lib.Math.max.name, Cond.constant RJ8 200 (2147483639), Cond.methodLink RJ8 201 yJ8_hugeLength_7cf53, Cond.static yJ8_hugeLength_7cf53, Cond.code yJ8_hugeLength_7cf53 cJ8_hugeLength_7cf53 3 (some .int), Cond.methodLink RJx4a65c 66 yJ7_copyOf_1904c, Cond.static yJ7_copyOf_1904c, Cond.initialized RJ7, Cond.code yJ7_copyOf_1904c cJ7_copyOf_1904c 2 (some (.array (.object "java/lang/Object"))), Cond.methodLink RJ7 86 ⟨"java/lang/Object", "getClass", "()Ljava/lang/Class;"⟩, Cond.selects "[Ljava/lang/Object;" ⟨"java/lang/Object", "getClass", "()Ljava/lang/Class;"⟩ ⟨"java/lang/Object", "getClass", "()Ljava/lang/Class;"⟩, Cond.instanceMethod ⟨"java/lang/Object", "getClass", "()Ljava/lang/Class;"⟩, Cond.native ⟨"java/lang/Object", "getClass", "()Ljava/lang/Class;"⟩, Cond.methodLink RJ7 300 yJ7_copyOf_6403c, Cond.static yJ7_copyOf_6403c]
def wsL_buy_r5 : List Cond := [Cond.code yJ7_copyOf_6403c cJ7_copyOf_6403c 4 (some (.array (.object "java/lang/Object"))), Cond.classLink RJ7 110 "[Ljava/lang/Object;", Cond.classLink RJ7 2 "java/lang/Object", Cond.methodLink RJ7 304 Lib.Math.min.name, Cond.static Lib.Math.min.name, Cond.code Lib.Math.min.name Lib.Math.min.code 2 (some .int), Cond.methodLink RJ7 150 arraycopyName, Cond.native arraycopyName, Cond.static arraycopyName, Cond.initialized "java/lang/System"]
def wsL_buy : List Cond := .codeWith yL_buy cL_buy 7 (some .int) [(0, 14, 17, 13), (0, 14, 21, 15), (0, 14, 25, 20)] :: ((wsL_buy_r1 ++ (wsL_buy_r2 ++ (wsL_buy_r3 ++ (wsL_buy_r4 ++ wsL_buy_r5)))) ++ wsX20 ++ wsJx4a65c0 ++ wsX10 ++ (vx_atS RX2 175 "java/lang/IndexOutOfBoundsException" ["java/lang/RuntimeException", "java/lang/Exception"]).filter goodWord ++ (vx_atS RX2 182 "java/lang/IllegalArgumentException" ["java/lang/RuntimeException", "java/lang/Exception"]).filter goodWord ++ (vx_atS RX2 73 "java/lang/IllegalStateException" ["java/lang/RuntimeException", "java/lang/Exception"]).filter goodWord)
def wsL_upgrade_r1 : List Cond := [Cond.classLink RL 13 "java/lang/IndexOutOfBoundsException", Cond.classLink RL 15 "java/lang/IllegalArgumentException", Cond.classLink RL 20 "java/lang/IllegalStateException", Cond.methodLink RL 37 yX2_upgrade, Cond.instanceMethod yX2_upgrade, Cond.selects RX2 yX2_upgrade yX2_upgrade, Cond.initialized RX2, Cond.code yX2_upgrade cX2_upgrade 4 (some .int), Cond.classLink RX2 69 "java/lang/IllegalStateException", Cond.initialized "java/lang/IllegalStateException", Cond.fieldLink RX2 89 "LicenceKeeper$Right" "version" "I", Cond.fieldLink RX2 24 "LicenceKeeper" "latestVersions" "[I", Cond.fieldLink RX2 86 "LicenceKeeper$Right" "product" "I", Cond.fieldLink RX2 112 "LicenceKeeper$Right" "count" "I", Cond.fieldLink RX2 115 "LicenceKeeper$Right" "measure" "I", Cond.fieldLink RX2 92 "LicenceKeeper$Right" "lastCareDay" "I", Cond.methodLink RX2 102 yX2_rightAt, Cond.instanceMethod yX2_rightAt, Cond.selects RX2 yX2_rightAt yX2_rightAt, Cond.code yX2_rightAt cX2_rightAt 2 (some (.object "LicenceKeeper$Right")), Cond.classLink RX2 171 "java/lang/IndexOutOfBoundsException", Cond.initialized "java/lang/IndexOutOfBoundsException", Cond.fieldLink RX2 33 "LicenceKeeper" "held" "Ljava/util/ArrayList;", Cond.classLink RX2 84 "LicenceKeeper$Right"]
def wsL_upgrade_r2 : List Cond := [Cond.methodLink RX2 76 yJx4a65c_size_8abf5, Cond.instanceMethod yJx4a65c_size_8abf5, Cond.selects RJx4a65c yJx4a65c_size_8abf5 yJx4a65c_size_8abf5, Cond.initialized RJx4a65c, Cond.code yJx4a65c_size_8abf5 cJx4a65c_size_8abf5 1 (some .int), Cond.fieldLink RJx4a65c 48 "java/util/ArrayList" "size" "I", Cond.methodLink RX2 80 yJx4a65c_get_915e3, Cond.instanceMethod yJx4a65c_get_915e3, Cond.selects RJx4a65c yJx4a65c_get_915e3 yJx4a65c_get_915e3, Cond.code yJx4a65c_get_915e3 cJx4a65c_get_915e3 2 (some (.object "java/lang/Object")), Cond.methodLink RJx4a65c 118 yJ15_checkIndex_7cf53, Cond.static yJ15_checkIndex_7cf53, Cond.initialized RJ15, Cond.code yJ15_checkIndex_7cf53 cJ15_checkIndex_7cf53 2 (some .int), Cond.methodLink RJ15 105 yJ3_checkIndex_8e157, Cond.static yJ3_checkIndex_8e157, Cond.initialized RJ3, Cond.code yJ3_checkIndex_8e157 cJ3_checkIndex_8e157 3 (some .int), Cond.methodLink RJx4a65c 123 yJx4a65c_elementData_915e3, Cond.instanceMethod yJx4a65c_elementData_915e3, Cond.selects RJx4a65c yJx4a65c_elementData_915e3 yJx4a65c_elementData_915e3, Cond.code yJx4a65c_elementData_915e3 cJx4a65c_elementData_915e3 2 (some (.object "java/lang/Object")), Cond.fieldLink RJx4a65c 9 "java/util/ArrayList" "elementData" "[Ljava/lang/Object;", Cond.methodLink RX2 58 yX2_requireRange]
def wsL_upgrade_r3 : List Cond := [Cond.static yX2_requireRange, Cond.code yX2_requireRange cX2_requireRange 3 none, Cond.classLink RX2 178 "java/lang/IllegalArgumentException", Cond.initialized "java/lang/IllegalArgumentException", Cond.methodLink RX2 106 yX2_requireCount, Cond.static yX2_requireCount, Cond.code yX2_requireCount cX2_requireCount 2 none, Cond.methodLink RX2 95 yX2_requireRoomForRight, Cond.instanceMethod yX2_requireRoomForRight, Cond.selects RX2 yX2_requireRoomForRight yX2_requireRoomForRight, Cond.code yX2_requireRoomForRight cX2_requireRoomForRight 1 none, Cond.methodLink RX2 98 yX2_addRight, Cond.instanceMethod yX2_addRight, Cond.selects RX2 yX2_addRight yX2_addRight, Cond.code yX2_addRight cX2_addRight 5 (some .int), Cond.classLink RX2 84 RX1, Cond.instantiable RX1 6, Cond.initialized RX1, Cond.methodLink RX2 199 yX1_init, Cond.instanceMethod yX1_init, Cond.code yX1_init cX1_init 6 none, Cond.methodLink RX1 1 objectInit, Cond.instanceMethod objectInit, Cond.code objectInit ⟨#[0xb1]⟩ 1 none]
def wsL_upgrade_r4 : List Cond := [Cond.fieldLink RX1 7 "LicenceKeeper$Right" "lent" "I", Cond.fieldLink RX1 13 "LicenceKeeper$Right" "product" "I", Cond.fieldLink RX1 16 "LicenceKeeper$Right" "measure" "I", Cond.fieldLink RX1 19 "LicenceKeeper$Right" "count" "I", Cond.fieldLink RX1 22 "LicenceKeeper$Right" "version" "I", Cond.fieldLink RX1 25 "LicenceKeeper$Right" "lastCareDay" "I", Cond.methodLink RX2 202 yJx4a65c_add_9ea2d, Cond.instanceMethod yJx4a65c_add_9ea2d, Cond.selects RJx4a65c yJx4a65c_add_9ea2d yJx4a65c_add_9ea2d, Cond.code yJx4a65c_add_9ea2d cJx4a65c_add_9ea2d 2 (some .boolean), Cond.fieldLink RJx4a65c 63 "java/util/ArrayList" "modCount" "I", Cond.sameField "java/util/ArrayList" "java/util/AbstractList" "modCount" "I", Cond.methodLink RJx4a65c 131 yJx4a65c_add_72be8, Cond.instanceMethod yJx4a65c_add_72be8, Cond.selects RJx4a65c yJx4a65c_add_72be8 yJx4a65c_add_72be8, Cond.code yJx4a65c_add_72be8 cJx4a65c_add_72be8 4 none, Cond.methodLink RJx4a65c 129 yJx4a65c_grow_d5877, Cond.instanceMethod yJx4a65c_grow_d5877, Cond.selects RJx4a65c yJx4a65c_grow_d5877 yJx4a65c_grow_d5877, Cond.code yJx4a65c_grow_d5877 cJx4a65c_grow_d5877 1 (some (.array (.object "java/lang/Object"))), Cond.methodLink RJx4a65c 69 yJx4a65c_grow_92f84, Cond.instanceMethod yJx4a65c_grow_92f84, Cond.selects RJx4a65c yJx4a65c_grow_92f84 yJx4a65c_grow_92f84, Cond.code yJx4a65c_grow_92f84 cJx4a65c_grow_92f84 4 (some (.array (.object "java/lang/Object")))]
def wsL_upgrade_r5 : List Cond := [Cond.fieldLink RJx4a65c 39 "java/util/ArrayList" "DEFAULTCAPACITY_EMPTY_ELEMENTDATA" "[Ljava/lang/Object;", Cond.methodLink RJx4a65c 79 Lib.Math.max.name, Cond.static Lib.Math.max.name, Cond.initialized "java/lang/Math", Cond.code Lib.Math.max.name Lib.Math.max.code 2 (some .int), Cond.classLink RJx4a65c 7 "java/lang/Object", Cond.methodLink RJx4a65c 73 yJ8_newLength_cabcc, Cond.static yJ8_newLength_cabcc, Cond.initialized RJ8, Cond.code yJ8_newLength_cabcc cJ8_newLength_cabcc 4 (some .int), Cond.methodLink RJ8 194 Lib.Math.max.name, Cond.constant RJ8 200 (2147483639), Cond.methodLink RJ8 201 yJ8_hugeLength_7cf53, Cond.static yJ8_hugeLength_7cf53, Cond.code yJ8_hugeLength_7cf53 cJ8_hugeLength_7cf53 3 (some .int), Cond.methodLink RJx4a65c 66 yJ7_copyOf_1904c, Cond.static yJ7_copyOf_1904c, Cond.initialized RJ7, Cond.code yJ7_copyOf_1904c cJ7_copyOf_1904c 2 (some (.array (.object "java/lang/Object"))), Cond.methodLink RJ7 86 ⟨"java/lang/Object", "getClass", "()Ljava/lang/Class;"⟩, Cond.selects "[Ljava/lang/Object;" ⟨"java/lang/Object", "getClass", "()Ljava/lang/Class;"⟩ ⟨"java/lang/Object", "getClass", "()Ljava/lang/Class;"⟩, Cond.instanceMethod ⟨"java/lang/Object", "getClass", "()Ljava/lang/Class;"⟩, Cond.native ⟨"java/lang/Object", "getClass", "()Ljava/lang/Class;"⟩, Cond.methodLink RJ7 300 yJ7_copyOf_6403c]
def wsL_upgrade_r6 : List Cond := [Cond.static yJ7_copyOf_6403c, Cond.code yJ7_copyOf_6403c cJ7_copyOf_6403c 4 (some (.array (.object "java/lang/Object"))), Cond.classLink RJ7 110 "[Ljava/lang/Object;", Cond.classLink RJ7 2 "java/lang/Object", Cond.methodLink RJ7 304 Lib.Math.min.name, Cond.static Lib.Math.min.name, Cond.code Lib.Math.min.name Lib.Math.min.code 2 (some .int), Cond.methodLink RJ7 150 arraycopyName, Cond.native arraycopyName, Cond.static arraycopyName, Cond.initialized "java/lang/System"]
def wsL_upgrade : List Cond := .codeWith yL_upgrade cL_upgrade 5 (some .int) [(0, 10, 13, 13), (0, 10, 17, 15), (0, 10, 21, 20)] :: ((wsL_upgrade_r1 ++ (wsL_upgrade_r2 ++ (wsL_upgrade_r3 ++ (wsL_upgrade_r4 ++ (wsL_upgrade_r5 ++ wsL_upgrade_r6))))) ++ wsX10 ++ wsX20 ++ wsJx4a65c0 ++ (vx_atS RX2 73 "java/lang/IllegalStateException" ["java/lang/RuntimeException", "java/lang/Exception"]).filter goodWord ++ (vx_atS RX2 175 "java/lang/IndexOutOfBoundsException" ["java/lang/RuntimeException", "java/lang/Exception"]).filter goodWord ++ (vx_atS RX2 182 "java/lang/IllegalArgumentException" ["java/lang/RuntimeException", "java/lang/Exception"]).filter goodWord)
def wsL_lend_r1 : List Cond := [Cond.classLink RL 13 "java/lang/IndexOutOfBoundsException", Cond.classLink RL 15 "java/lang/IllegalArgumentException", Cond.classLink RL 20 "java/lang/IllegalStateException", Cond.methodLink RL 40 yX2_lend, Cond.instanceMethod yX2_lend, Cond.selects RX2 yX2_lend yX2_lend, Cond.initialized RX2, Cond.code yX2_lend cX2_lend 4 (some .int), Cond.classLink RX2 69 "java/lang/IllegalStateException", Cond.initialized "java/lang/IllegalStateException", Cond.fieldLink RX2 118 "LicenceKeeper$Right" "lent" "I", Cond.fieldLink RX2 112 "LicenceKeeper$Right" "count" "I", Cond.methodLink RX2 102 yX2_rightAt, Cond.instanceMethod yX2_rightAt, Cond.selects RX2 yX2_rightAt yX2_rightAt, Cond.code yX2_rightAt cX2_rightAt 2 (some (.object "LicenceKeeper$Right")), Cond.classLink RX2 171 "java/lang/IndexOutOfBoundsException", Cond.initialized "java/lang/IndexOutOfBoundsException", Cond.fieldLink RX2 33 "LicenceKeeper" "held" "Ljava/util/ArrayList;", Cond.classLink RX2 84 "LicenceKeeper$Right", Cond.methodLink RX2 76 yJx4a65c_size_8abf5, Cond.instanceMethod yJx4a65c_size_8abf5, Cond.selects RJx4a65c yJx4a65c_size_8abf5 yJx4a65c_size_8abf5, Cond.initialized RJx4a65c]
def wsL_lend_r2 : List Cond := [Cond.code yJx4a65c_size_8abf5 cJx4a65c_size_8abf5 1 (some .int), Cond.fieldLink RJx4a65c 48 "java/util/ArrayList" "size" "I", Cond.methodLink RX2 80 yJx4a65c_get_915e3, Cond.instanceMethod yJx4a65c_get_915e3, Cond.selects RJx4a65c yJx4a65c_get_915e3 yJx4a65c_get_915e3, Cond.code yJx4a65c_get_915e3 cJx4a65c_get_915e3 2 (some (.object "java/lang/Object")), Cond.methodLink RJx4a65c 118 yJ15_checkIndex_7cf53, Cond.static yJ15_checkIndex_7cf53, Cond.initialized RJ15, Cond.code yJ15_checkIndex_7cf53 cJ15_checkIndex_7cf53 2 (some .int), Cond.methodLink RJ15 105 yJ3_checkIndex_8e157, Cond.static yJ3_checkIndex_8e157, Cond.initialized RJ3, Cond.code yJ3_checkIndex_8e157 cJ3_checkIndex_8e157 3 (some .int), Cond.methodLink RJx4a65c 123 yJx4a65c_elementData_915e3, Cond.instanceMethod yJx4a65c_elementData_915e3, Cond.selects RJx4a65c yJx4a65c_elementData_915e3 yJx4a65c_elementData_915e3, Cond.code yJx4a65c_elementData_915e3 cJx4a65c_elementData_915e3 2 (some (.object "java/lang/Object")), Cond.fieldLink RJx4a65c 9 "java/util/ArrayList" "elementData" "[Ljava/lang/Object;", Cond.methodLink RX2 58 yX2_requireRange, Cond.static yX2_requireRange, Cond.code yX2_requireRange cX2_requireRange 3 none, Cond.classLink RX2 178 "java/lang/IllegalArgumentException", Cond.initialized "java/lang/IllegalArgumentException"]
def wsL_lend_r3 : List Cond := [Cond.methodLink RX2 106 yX2_requireCount, Cond.static yX2_requireCount, Cond.code yX2_requireCount cX2_requireCount 2 none]
def wsL_lend : List Cond := .codeWith yL_lend cL_lend 5 (some .int) [(0, 10, 13, 13), (0, 10, 17, 15), (0, 10, 21, 20)] :: ((wsL_lend_r1 ++ (wsL_lend_r2 ++ wsL_lend_r3)) ++ wsX10 ++ wsX20 ++ wsJx4a65c0 ++ (vx_atS RX2 73 "java/lang/IllegalStateException" ["java/lang/RuntimeException", "java/lang/Exception"]).filter goodWord ++ (vx_atS RX2 175 "java/lang/IndexOutOfBoundsException" ["java/lang/RuntimeException", "java/lang/Exception"]).filter goodWord ++ (vx_atS RX2 182 "java/lang/IllegalArgumentException" ["java/lang/RuntimeException", "java/lang/Exception"]).filter goodWord)
def wsL_pass : List Cond := .codeWith yL_pass cL_pass 4 (some .int) [(0, 9, 12, 15)] :: ([.classLink RL 15 "java/lang/IllegalArgumentException", .methodLink RL 43 yX2_pass, .instanceMethod yX2_pass, .selects RX2 yX2_pass yX2_pass, .initialized RX2, .code yX2_pass cX2_pass 2 (some .int), .fieldLink RX2 44 "LicenceKeeper" "day" "I", .methodLink RX2 58 yX2_requireRange, .static yX2_requireRange, .code yX2_requireRange cX2_requireRange 3 none, .classLink RX2 178 "java/lang/IllegalArgumentException", .initialized "java/lang/IllegalArgumentException"] ++ wsX20 ++ (vx_atS RX2 182 "java/lang/IllegalArgumentException" ["java/lang/RuntimeException", "java/lang/Exception"]).filter goodWord)
def wsL_countOf_r1 : List Cond := [Cond.classLink RL 13 "java/lang/IndexOutOfBoundsException", Cond.methodLink RL 46 yX2_countOf, Cond.instanceMethod yX2_countOf, Cond.selects RX2 yX2_countOf yX2_countOf, Cond.initialized RX2, Cond.code yX2_countOf cX2_countOf 2 (some .int), Cond.fieldLink RX2 112 "LicenceKeeper$Right" "count" "I", Cond.methodLink RX2 102 yX2_rightAt, Cond.instanceMethod yX2_rightAt, Cond.selects RX2 yX2_rightAt yX2_rightAt, Cond.code yX2_rightAt cX2_rightAt 2 (some (.object "LicenceKeeper$Right")), Cond.classLink RX2 171 "java/lang/IndexOutOfBoundsException", Cond.initialized "java/lang/IndexOutOfBoundsException", Cond.fieldLink RX2 33 "LicenceKeeper" "held" "Ljava/util/ArrayList;", Cond.classLink RX2 84 "LicenceKeeper$Right", Cond.methodLink RX2 76 yJx4a65c_size_8abf5, Cond.instanceMethod yJx4a65c_size_8abf5, Cond.selects RJx4a65c yJx4a65c_size_8abf5 yJx4a65c_size_8abf5, Cond.initialized RJx4a65c, Cond.code yJx4a65c_size_8abf5 cJx4a65c_size_8abf5 1 (some .int), Cond.fieldLink RJx4a65c 48 "java/util/ArrayList" "size" "I", Cond.methodLink RX2 80 yJx4a65c_get_915e3, Cond.instanceMethod yJx4a65c_get_915e3, Cond.selects RJx4a65c yJx4a65c_get_915e3 yJx4a65c_get_915e3]
def wsL_countOf_r2 : List Cond := [Cond.code yJx4a65c_get_915e3 cJx4a65c_get_915e3 2 (some (.object "java/lang/Object")), Cond.methodLink RJx4a65c 118 yJ15_checkIndex_7cf53, Cond.static yJ15_checkIndex_7cf53, Cond.initialized RJ15, Cond.code yJ15_checkIndex_7cf53 cJ15_checkIndex_7cf53 2 (some .int), Cond.methodLink RJ15 105 yJ3_checkIndex_8e157, Cond.static yJ3_checkIndex_8e157, Cond.initialized RJ3, Cond.code yJ3_checkIndex_8e157 cJ3_checkIndex_8e157 3 (some .int), Cond.methodLink RJx4a65c 123 yJx4a65c_elementData_915e3, Cond.instanceMethod yJx4a65c_elementData_915e3, Cond.selects RJx4a65c yJx4a65c_elementData_915e3 yJx4a65c_elementData_915e3, Cond.code yJx4a65c_elementData_915e3 cJx4a65c_elementData_915e3 2 (some (.object "java/lang/Object")), Cond.fieldLink RJx4a65c 9 "java/util/ArrayList" "elementData" "[Ljava/lang/Object;"]
def wsL_countOf : List Cond := .codeWith yL_countOf cL_countOf 4 (some .int) [(0, 9, 12, 13)] :: ((wsL_countOf_r1 ++ wsL_countOf_r2) ++ wsX10 ++ wsX20 ++ wsJx4a65c0 ++ (vx_atS RX2 175 "java/lang/IndexOutOfBoundsException" ["java/lang/RuntimeException", "java/lang/Exception"]).filter goodWord)
def wsL_versionOf_r1 : List Cond := [Cond.classLink RL 13 "java/lang/IndexOutOfBoundsException", Cond.methodLink RL 49 yX2_versionOf, Cond.instanceMethod yX2_versionOf, Cond.selects RX2 yX2_versionOf yX2_versionOf, Cond.initialized RX2, Cond.code yX2_versionOf cX2_versionOf 2 (some .int), Cond.fieldLink RX2 89 "LicenceKeeper$Right" "version" "I", Cond.methodLink RX2 102 yX2_rightAt, Cond.instanceMethod yX2_rightAt, Cond.selects RX2 yX2_rightAt yX2_rightAt, Cond.code yX2_rightAt cX2_rightAt 2 (some (.object "LicenceKeeper$Right")), Cond.classLink RX2 171 "java/lang/IndexOutOfBoundsException", Cond.initialized "java/lang/IndexOutOfBoundsException", Cond.fieldLink RX2 33 "LicenceKeeper" "held" "Ljava/util/ArrayList;", Cond.classLink RX2 84 "LicenceKeeper$Right", Cond.methodLink RX2 76 yJx4a65c_size_8abf5, Cond.instanceMethod yJx4a65c_size_8abf5, Cond.selects RJx4a65c yJx4a65c_size_8abf5 yJx4a65c_size_8abf5, Cond.initialized RJx4a65c, Cond.code yJx4a65c_size_8abf5 cJx4a65c_size_8abf5 1 (some .int), Cond.fieldLink RJx4a65c 48 "java/util/ArrayList" "size" "I", Cond.methodLink RX2 80 yJx4a65c_get_915e3, Cond.instanceMethod yJx4a65c_get_915e3, Cond.selects RJx4a65c yJx4a65c_get_915e3 yJx4a65c_get_915e3]
def wsL_versionOf_r2 : List Cond := [Cond.code yJx4a65c_get_915e3 cJx4a65c_get_915e3 2 (some (.object "java/lang/Object")), Cond.methodLink RJx4a65c 118 yJ15_checkIndex_7cf53, Cond.static yJ15_checkIndex_7cf53, Cond.initialized RJ15, Cond.code yJ15_checkIndex_7cf53 cJ15_checkIndex_7cf53 2 (some .int), Cond.methodLink RJ15 105 yJ3_checkIndex_8e157, Cond.static yJ3_checkIndex_8e157, Cond.initialized RJ3, Cond.code yJ3_checkIndex_8e157 cJ3_checkIndex_8e157 3 (some .int), Cond.methodLink RJx4a65c 123 yJx4a65c_elementData_915e3, Cond.instanceMethod yJx4a65c_elementData_915e3, Cond.selects RJx4a65c yJx4a65c_elementData_915e3 yJx4a65c_elementData_915e3, Cond.code yJx4a65c_elementData_915e3 cJx4a65c_elementData_915e3 2 (some (.object "java/lang/Object")), Cond.fieldLink RJx4a65c 9 "java/util/ArrayList" "elementData" "[Ljava/lang/Object;"]
def wsL_versionOf : List Cond := .codeWith yL_versionOf cL_versionOf 4 (some .int) [(0, 9, 12, 13)] :: ((wsL_versionOf_r1 ++ wsL_versionOf_r2) ++ wsX10 ++ wsX20 ++ wsJx4a65c0 ++ (vx_atS RX2 175 "java/lang/IndexOutOfBoundsException" ["java/lang/RuntimeException", "java/lang/Exception"]).filter goodWord)
def wsL_latest : List Cond := .codeWith yL_latest cL_latest 4 (some .int) [(0, 9, 12, 13)] :: ([.classLink RL 13 "java/lang/IndexOutOfBoundsException", .methodLink RL 52 yX2_latest, .instanceMethod yX2_latest, .selects RX2 yX2_latest yX2_latest, .initialized RX2, .code yX2_latest cX2_latest 2 (some .int), .fieldLink RX2 24 "LicenceKeeper" "latestVersions" "[I", .methodLink RX2 66 yX2_requireProduct, .static yX2_requireProduct, .code yX2_requireProduct cX2_requireProduct 1 none, .classLink RX2 171 "java/lang/IndexOutOfBoundsException", .initialized "java/lang/IndexOutOfBoundsException"] ++ wsX20 ++ (vx_atS RX2 175 "java/lang/IndexOutOfBoundsException" ["java/lang/RuntimeException", "java/lang/Exception"]).filter goodWord)
def wsL_hostOf : List Cond := .codeWith yL_hostOf cL_hostOf 4 (some .int) [(0, 9, 12, 13)] :: ([.classLink RL 13 "java/lang/IndexOutOfBoundsException", .methodLink RL 55 yX2_hostOf, .instanceMethod yX2_hostOf, .selects RX2 yX2_hostOf yX2_hostOf, .initialized RX2, .code yX2_hostOf cX2_hostOf 2 (some .int), .fieldLink RX2 13 "LicenceKeeper" "hosts" "[I", .methodLink RX2 54 yX2_requireMachine, .static yX2_requireMachine, .code yX2_requireMachine cX2_requireMachine 1 none, .classLink RX2 171 "java/lang/IndexOutOfBoundsException", .initialized "java/lang/IndexOutOfBoundsException"] ++ wsX20 ++ (vx_atS RX2 175 "java/lang/IndexOutOfBoundsException" ["java/lang/RuntimeException", "java/lang/Exception"]).filter goodWord)
def wsL_weight : List Cond := .codeWith yL_weight cL_weight 5 (some .int) [(0, 10, 13, 13)] :: ([.classLink RL 13 "java/lang/IndexOutOfBoundsException", .methodLink RL 58 yX2_weight, .instanceMethod yX2_weight, .selects RX2 yX2_weight yX2_weight, .initialized RX2, .code yX2_weight cX2_weight 3 (some .int), .methodLink RX2 54 yX2_requireMachine, .static yX2_requireMachine, .code yX2_requireMachine cX2_requireMachine 1 none, .classLink RX2 171 "java/lang/IndexOutOfBoundsException", .initialized "java/lang/IndexOutOfBoundsException", .methodLink RX2 66 yX2_requireProduct, .static yX2_requireProduct, .code yX2_requireProduct cX2_requireProduct 1 none, .methodLink RX2 123 yX2_weightOn, .instanceMethod yX2_weightOn, .selects RX2 yX2_weightOn yX2_weightOn, .code yX2_weightOn cX2_weightOn 3 (some .int), .fieldLink RX2 21 "LicenceKeeper" "found" "[[I", .fieldLink RX2 9 "LicenceKeeper" "cores" "[I", .fieldLink RX2 27 "LicenceKeeper" "prices" "[I"] ++ wsX20 ++ (vx_atS RX2 175 "java/lang/IndexOutOfBoundsException" ["java/lang/RuntimeException", "java/lang/Exception"]).filter goodWord)
def wsL_covers_r1 : List Cond := [Cond.classLink RL 13 "java/lang/IndexOutOfBoundsException", Cond.methodLink RL 61 yX2_covers, Cond.instanceMethod yX2_covers, Cond.selects RX2 yX2_covers yX2_covers, Cond.initialized RX2, Cond.code yX2_covers cX2_covers 4 (some .int), Cond.fieldLink RX2 13 "LicenceKeeper" "hosts" "[I", Cond.methodLink RX2 102 yX2_rightAt, Cond.instanceMethod yX2_rightAt, Cond.selects RX2 yX2_rightAt yX2_rightAt, Cond.code yX2_rightAt cX2_rightAt 2 (some (.object "LicenceKeeper$Right")), Cond.classLink RX2 171 "java/lang/IndexOutOfBoundsException", Cond.initialized "java/lang/IndexOutOfBoundsException", Cond.fieldLink RX2 33 "LicenceKeeper" "held" "Ljava/util/ArrayList;", Cond.classLink RX2 84 "LicenceKeeper$Right", Cond.methodLink RX2 76 yJx4a65c_size_8abf5, Cond.instanceMethod yJx4a65c_size_8abf5, Cond.selects RJx4a65c yJx4a65c_size_8abf5 yJx4a65c_size_8abf5, Cond.initialized RJx4a65c, Cond.code yJx4a65c_size_8abf5 cJx4a65c_size_8abf5 1 (some .int), Cond.fieldLink RJx4a65c 48 "java/util/ArrayList" "size" "I", Cond.methodLink RX2 80 yJx4a65c_get_915e3, Cond.instanceMethod yJx4a65c_get_915e3, Cond.selects RJx4a65c yJx4a65c_get_915e3 yJx4a65c_get_915e3]
def wsL_covers_r2 : List Cond := [Cond.code yJx4a65c_get_915e3 cJx4a65c_get_915e3 2 (some (.object "java/lang/Object")), Cond.methodLink RJx4a65c 118 yJ15_checkIndex_7cf53, Cond.static yJ15_checkIndex_7cf53, Cond.initialized RJ15, Cond.code yJ15_checkIndex_7cf53 cJ15_checkIndex_7cf53 2 (some .int), Cond.methodLink RJ15 105 yJ3_checkIndex_8e157, Cond.static yJ3_checkIndex_8e157, Cond.initialized RJ3, Cond.code yJ3_checkIndex_8e157 cJ3_checkIndex_8e157 3 (some .int), Cond.methodLink RJx4a65c 123 yJx4a65c_elementData_915e3, Cond.instanceMethod yJx4a65c_elementData_915e3, Cond.selects RJx4a65c yJx4a65c_elementData_915e3 yJx4a65c_elementData_915e3, Cond.code yJx4a65c_elementData_915e3 cJx4a65c_elementData_915e3 2 (some (.object "java/lang/Object")), Cond.fieldLink RJx4a65c 9 "java/util/ArrayList" "elementData" "[Ljava/lang/Object;", Cond.methodLink RX2 54 yX2_requireMachine, Cond.static yX2_requireMachine, Cond.code yX2_requireMachine cX2_requireMachine 1 none, Cond.methodLink RX2 127 yX2_coverOn, Cond.instanceMethod yX2_coverOn, Cond.selects RX2 yX2_coverOn yX2_coverOn, Cond.code yX2_coverOn cX2_coverOn 8 (some .int), Cond.fieldLink RX2 115 "LicenceKeeper$Right" "measure" "I", Cond.fieldLink RX2 21 "LicenceKeeper" "found" "[[I", Cond.fieldLink RX2 86 "LicenceKeeper$Right" "product" "I"]
def wsL_covers_r3 : List Cond := [Cond.fieldLink RX2 89 "LicenceKeeper$Right" "version" "I"]
def wsL_covers : List Cond := .codeWith yL_covers cL_covers 5 (some .int) [(0, 10, 13, 13)] :: ((wsL_covers_r1 ++ (wsL_covers_r2 ++ wsL_covers_r3)) ++ wsX20 ++ wsJx4a65c0 ++ wsX10 ++ (vx_atS RX2 175 "java/lang/IndexOutOfBoundsException" ["java/lang/RuntimeException", "java/lang/Exception"]).filter goodWord)
def wsL_gap_r1 : List Cond := [Cond.classLink RL 13 "java/lang/IndexOutOfBoundsException", Cond.methodLink RL 64 yX2_gap, Cond.instanceMethod yX2_gap, Cond.selects RX2 yX2_gap yX2_gap, Cond.initialized RX2, Cond.code yX2_gap cX2_gap 2 (some .int), Cond.fieldLink RX2 40 "LicenceKeeper" "layings" "LLicenceKeeper$Layings;", Cond.fieldLink RX2 13 "LicenceKeeper" "hosts" "[I", Cond.methodLink RX2 66 yX2_requireProduct, Cond.static yX2_requireProduct, Cond.code yX2_requireProduct cX2_requireProduct 1 none, Cond.classLink RX2 171 "java/lang/IndexOutOfBoundsException", Cond.initialized "java/lang/IndexOutOfBoundsException", Cond.methodLink RX2 131 yX2_leastUncovered, Cond.instanceMethod yX2_leastUncovered, Cond.selects RX2 yX2_leastUncovered yX2_leastUncovered, Cond.code yX2_leastUncovered cX2_leastUncovered 3 (some .int), Cond.methodLink RX2 161 yX2_layAllBut, Cond.instanceMethod yX2_layAllBut, Cond.selects RX2 yX2_layAllBut yX2_layAllBut, Cond.code yX2_layAllBut cX2_layAllBut 6 none, Cond.fieldLink RX2 33 "LicenceKeeper" "held" "Ljava/util/ArrayList;", Cond.classLink RX2 84 "LicenceKeeper$Right", Cond.fieldLink RX2 86 "LicenceKeeper$Right" "product" "I"]
def wsL_gap_r2 : List Cond := [Cond.fieldLink RX2 112 "LicenceKeeper$Right" "count" "I", Cond.methodLink RX2 142 yX2_startLayings, Cond.instanceMethod yX2_startLayings, Cond.selects RX2 yX2_startLayings yX2_startLayings, Cond.code yX2_startLayings cX2_startLayings 3 none, Cond.fieldLink RX2 21 "LicenceKeeper" "found" "[[I", Cond.methodLink RX2 214 yX0_clearAll, Cond.instanceMethod yX0_clearAll, Cond.selects RX0 yX0_clearAll yX0_clearAll, Cond.initialized RX0, Cond.code yX0_clearAll cX0_clearAll 1 none, Cond.fieldLink RX0 21 "LicenceKeeper$Layings" "havers" "I", Cond.fieldLink RX0 25 "LicenceKeeper$Layings" "taken" "[I", Cond.constant RX0 34 (1000000), Cond.methodLink RX0 35 yJ7_fill_53178, Cond.static yJ7_fill_53178, Cond.initialized RJ7, Cond.code yJ7_fill_53178 cJ7_fill_53178 4 none, Cond.methodLink RX2 123 yX2_weightOn, Cond.instanceMethod yX2_weightOn, Cond.selects RX2 yX2_weightOn yX2_weightOn, Cond.code yX2_weightOn cX2_weightOn 3 (some .int), Cond.fieldLink RX2 9 "LicenceKeeper" "cores" "[I", Cond.fieldLink RX2 27 "LicenceKeeper" "prices" "[I"]
def wsL_gap_r3 : List Cond := [Cond.methodLink RX2 217 yX0_weigh, Cond.instanceMethod yX0_weigh, Cond.selects RX0 yX0_weigh yX0_weigh, Cond.code yX0_weigh cX0_weigh 6 none, Cond.fieldLink RX0 18 "LicenceKeeper$Layings" "setWeights" "[I", Cond.methodLink RX2 76 yJx4a65c_size_8abf5, Cond.instanceMethod yJx4a65c_size_8abf5, Cond.selects RJx4a65c yJx4a65c_size_8abf5 yJx4a65c_size_8abf5, Cond.initialized RJx4a65c, Cond.code yJx4a65c_size_8abf5 cJx4a65c_size_8abf5 1 (some .int), Cond.fieldLink RJx4a65c 48 "java/util/ArrayList" "size" "I", Cond.methodLink RX2 80 yJx4a65c_get_915e3, Cond.instanceMethod yJx4a65c_get_915e3, Cond.selects RJx4a65c yJx4a65c_get_915e3 yJx4a65c_get_915e3, Cond.code yJx4a65c_get_915e3 cJx4a65c_get_915e3 2 (some (.object "java/lang/Object")), Cond.methodLink RJx4a65c 118 yJ15_checkIndex_7cf53, Cond.static yJ15_checkIndex_7cf53, Cond.initialized RJ15, Cond.code yJ15_checkIndex_7cf53 cJ15_checkIndex_7cf53 2 (some .int), Cond.methodLink RJ15 105 yJ3_checkIndex_8e157, Cond.static yJ3_checkIndex_8e157, Cond.initialized RJ3, Cond.code yJ3_checkIndex_8e157 cJ3_checkIndex_8e157 3 (some .int), Cond.methodLink RJx4a65c 123 yJx4a65c_elementData_915e3]
def wsL_gap_r4 : List Cond := [Cond.instanceMethod yJx4a65c_elementData_915e3, Cond.selects RJx4a65c yJx4a65c_elementData_915e3 yJx4a65c_elementData_915e3, Cond.code yJx4a65c_elementData_915e3 cJx4a65c_elementData_915e3 2 (some (.object "java/lang/Object")), Cond.fieldLink RJx4a65c 9 "java/util/ArrayList" "elementData" "[Ljava/lang/Object;", Cond.methodLink RX2 145 yX2_takeUp, Cond.instanceMethod yX2_takeUp, Cond.selects RX2 yX2_takeUp yX2_takeUp, Cond.code yX2_takeUp cX2_takeUp 4 none, Cond.fieldLink RX2 221 "LicenceKeeper$Layings" "machineTakes" "[I", Cond.fieldLink RX2 228 "LicenceKeeper$Layings" "machineCovers" "[I", Cond.methodLink RX2 224 yX2_takenOn, Cond.instanceMethod yX2_takenOn, Cond.selects RX2 yX2_takenOn yX2_takenOn, Cond.code yX2_takenOn cX2_takenOn 3 (some .int), Cond.fieldLink RX2 115 "LicenceKeeper$Right" "measure" "I", Cond.methodLink RX2 206 Lib.Math.max.name, Cond.static Lib.Math.max.name, Cond.initialized "java/lang/Math", Cond.code Lib.Math.max.name Lib.Math.max.code 2 (some .int), Cond.methodLink RX2 127 yX2_coverOn, Cond.instanceMethod yX2_coverOn, Cond.selects RX2 yX2_coverOn yX2_coverOn, Cond.code yX2_coverOn cX2_coverOn 8 (some .int), Cond.fieldLink RX2 89 "LicenceKeeper$Right" "version" "I"]
def wsL_gap_r5 : List Cond := [Cond.methodLink RX2 165 yX0_layOpen, Cond.instanceMethod yX0_layOpen, Cond.selects RX0 yX0_layOpen yX0_layOpen, Cond.code yX0_layOpen cX0_layOpen 6 none, Cond.fieldLink RX0 15 "LicenceKeeper$Layings" "machineCovers" "[I", Cond.fieldLink RX0 9 "LicenceKeeper$Layings" "machineTakes" "[I", Cond.methodLink RX0 41 Lib.Math.min.name, Cond.static Lib.Math.min.name, Cond.code Lib.Math.min.name Lib.Math.min.code 2 (some .int), Cond.methodLink RX2 211 yX0_closeWithin, Cond.instanceMethod yX0_closeWithin, Cond.selects RX0 yX0_closeWithin yX0_closeWithin, Cond.code yX0_closeWithin cX0_closeWithin 3 none, Cond.methodLink RX2 152 yX0_leastUncoveredWithin, Cond.instanceMethod yX0_leastUncoveredWithin, Cond.selects RX0 yX0_leastUncoveredWithin yX0_leastUncoveredWithin, Cond.code yX0_leastUncoveredWithin cX0_leastUncoveredWithin 5 (some .int), Cond.methodLink RX0 60 yX0_isLess, Cond.instanceMethod yX0_isLess, Cond.selects RX0 yX0_isLess yX0_isLess, Cond.code yX0_isLess cX0_isLess 4 (some .boolean), Cond.methodLink RX0 64 yX0_weightOfSet, Cond.instanceMethod yX0_weightOfSet, Cond.selects RX0 yX0_weightOfSet yX0_weightOfSet]
def wsL_gap_r6 : List Cond := [Cond.code yX0_weightOfSet cX0_weightOfSet 2 (some .int), Cond.methodLink RX2 135 yX0_weightOfSet]
def wsL_gap : List Cond := .codeWith yL_gap cL_gap 4 (some .int) [(0, 9, 12, 13)] :: ((wsL_gap_r1 ++ (wsL_gap_r2 ++ (wsL_gap_r3 ++ (wsL_gap_r4 ++ (wsL_gap_r5 ++ wsL_gap_r6))))) ++ wsX20 ++ wsX10 ++ wsX00 ++ wsJx4a65c0 ++ (vx_atS RX2 175 "java/lang/IndexOutOfBoundsException" ["java/lang/RuntimeException", "java/lang/Exception"]).filter goodWord)
def wsL_uncovered_r1 : List Cond := [Cond.classLink RL 13 "java/lang/IndexOutOfBoundsException", Cond.methodLink RL 67 yX2_uncovered, Cond.instanceMethod yX2_uncovered, Cond.selects RX2 yX2_uncovered yX2_uncovered, Cond.initialized RX2, Cond.code yX2_uncovered cX2_uncovered 2 (some .int), Cond.fieldLink RX2 13 "LicenceKeeper" "hosts" "[I", Cond.methodLink RX2 66 yX2_requireProduct, Cond.static yX2_requireProduct, Cond.code yX2_requireProduct cX2_requireProduct 1 none, Cond.classLink RX2 171 "java/lang/IndexOutOfBoundsException", Cond.initialized "java/lang/IndexOutOfBoundsException", Cond.methodLink RX2 131 yX2_leastUncovered, Cond.instanceMethod yX2_leastUncovered, Cond.selects RX2 yX2_leastUncovered yX2_leastUncovered, Cond.code yX2_leastUncovered cX2_leastUncovered 3 (some .int), Cond.fieldLink RX2 40 "LicenceKeeper" "layings" "LLicenceKeeper$Layings;", Cond.methodLink RX2 161 yX2_layAllBut, Cond.instanceMethod yX2_layAllBut, Cond.selects RX2 yX2_layAllBut yX2_layAllBut, Cond.code yX2_layAllBut cX2_layAllBut 6 none, Cond.fieldLink RX2 33 "LicenceKeeper" "held" "Ljava/util/ArrayList;", Cond.classLink RX2 84 "LicenceKeeper$Right", Cond.fieldLink RX2 86 "LicenceKeeper$Right" "product" "I"]
def wsL_uncovered_r2 : List Cond := [Cond.fieldLink RX2 112 "LicenceKeeper$Right" "count" "I", Cond.methodLink RX2 142 yX2_startLayings, Cond.instanceMethod yX2_startLayings, Cond.selects RX2 yX2_startLayings yX2_startLayings, Cond.code yX2_startLayings cX2_startLayings 3 none, Cond.fieldLink RX2 21 "LicenceKeeper" "found" "[[I", Cond.methodLink RX2 214 yX0_clearAll, Cond.instanceMethod yX0_clearAll, Cond.selects RX0 yX0_clearAll yX0_clearAll, Cond.initialized RX0, Cond.code yX0_clearAll cX0_clearAll 1 none, Cond.fieldLink RX0 21 "LicenceKeeper$Layings" "havers" "I", Cond.fieldLink RX0 25 "LicenceKeeper$Layings" "taken" "[I", Cond.constant RX0 34 (1000000), Cond.methodLink RX0 35 yJ7_fill_53178, Cond.static yJ7_fill_53178, Cond.initialized RJ7, Cond.code yJ7_fill_53178 cJ7_fill_53178 4 none, Cond.methodLink RX2 123 yX2_weightOn, Cond.instanceMethod yX2_weightOn, Cond.selects RX2 yX2_weightOn yX2_weightOn, Cond.code yX2_weightOn cX2_weightOn 3 (some .int), Cond.fieldLink RX2 9 "LicenceKeeper" "cores" "[I", Cond.fieldLink RX2 27 "LicenceKeeper" "prices" "[I"]
def wsL_uncovered_r3 : List Cond := [Cond.methodLink RX2 217 yX0_weigh, Cond.instanceMethod yX0_weigh, Cond.selects RX0 yX0_weigh yX0_weigh, Cond.code yX0_weigh cX0_weigh 6 none, Cond.fieldLink RX0 18 "LicenceKeeper$Layings" "setWeights" "[I", Cond.methodLink RX2 76 yJx4a65c_size_8abf5, Cond.instanceMethod yJx4a65c_size_8abf5, Cond.selects RJx4a65c yJx4a65c_size_8abf5 yJx4a65c_size_8abf5, Cond.initialized RJx4a65c, Cond.code yJx4a65c_size_8abf5 cJx4a65c_size_8abf5 1 (some .int), Cond.fieldLink RJx4a65c 48 "java/util/ArrayList" "size" "I", Cond.methodLink RX2 80 yJx4a65c_get_915e3, Cond.instanceMethod yJx4a65c_get_915e3, Cond.selects RJx4a65c yJx4a65c_get_915e3 yJx4a65c_get_915e3, Cond.code yJx4a65c_get_915e3 cJx4a65c_get_915e3 2 (some (.object "java/lang/Object")), Cond.methodLink RJx4a65c 118 yJ15_checkIndex_7cf53, Cond.static yJ15_checkIndex_7cf53, Cond.initialized RJ15, Cond.code yJ15_checkIndex_7cf53 cJ15_checkIndex_7cf53 2 (some .int), Cond.methodLink RJ15 105 yJ3_checkIndex_8e157, Cond.static yJ3_checkIndex_8e157, Cond.initialized RJ3, Cond.code yJ3_checkIndex_8e157 cJ3_checkIndex_8e157 3 (some .int), Cond.methodLink RJx4a65c 123 yJx4a65c_elementData_915e3]
def wsL_uncovered_r4 : List Cond := [Cond.instanceMethod yJx4a65c_elementData_915e3, Cond.selects RJx4a65c yJx4a65c_elementData_915e3 yJx4a65c_elementData_915e3, Cond.code yJx4a65c_elementData_915e3 cJx4a65c_elementData_915e3 2 (some (.object "java/lang/Object")), Cond.fieldLink RJx4a65c 9 "java/util/ArrayList" "elementData" "[Ljava/lang/Object;", Cond.methodLink RX2 145 yX2_takeUp, Cond.instanceMethod yX2_takeUp, Cond.selects RX2 yX2_takeUp yX2_takeUp, Cond.code yX2_takeUp cX2_takeUp 4 none, Cond.fieldLink RX2 221 "LicenceKeeper$Layings" "machineTakes" "[I", Cond.fieldLink RX2 228 "LicenceKeeper$Layings" "machineCovers" "[I", Cond.methodLink RX2 224 yX2_takenOn, Cond.instanceMethod yX2_takenOn, Cond.selects RX2 yX2_takenOn yX2_takenOn, Cond.code yX2_takenOn cX2_takenOn 3 (some .int), Cond.fieldLink RX2 115 "LicenceKeeper$Right" "measure" "I", Cond.methodLink RX2 206 Lib.Math.max.name, Cond.static Lib.Math.max.name, Cond.initialized "java/lang/Math", Cond.code Lib.Math.max.name Lib.Math.max.code 2 (some .int), Cond.methodLink RX2 127 yX2_coverOn, Cond.instanceMethod yX2_coverOn, Cond.selects RX2 yX2_coverOn yX2_coverOn, Cond.code yX2_coverOn cX2_coverOn 8 (some .int), Cond.fieldLink RX2 89 "LicenceKeeper$Right" "version" "I"]
def wsL_uncovered_r5 : List Cond := [Cond.methodLink RX2 165 yX0_layOpen, Cond.instanceMethod yX0_layOpen, Cond.selects RX0 yX0_layOpen yX0_layOpen, Cond.code yX0_layOpen cX0_layOpen 6 none, Cond.fieldLink RX0 15 "LicenceKeeper$Layings" "machineCovers" "[I", Cond.fieldLink RX0 9 "LicenceKeeper$Layings" "machineTakes" "[I", Cond.methodLink RX0 41 Lib.Math.min.name, Cond.static Lib.Math.min.name, Cond.code Lib.Math.min.name Lib.Math.min.code 2 (some .int), Cond.methodLink RX2 211 yX0_closeWithin, Cond.instanceMethod yX0_closeWithin, Cond.selects RX0 yX0_closeWithin yX0_closeWithin, Cond.code yX0_closeWithin cX0_closeWithin 3 none, Cond.methodLink RX2 152 yX0_leastUncoveredWithin, Cond.instanceMethod yX0_leastUncoveredWithin, Cond.selects RX0 yX0_leastUncoveredWithin yX0_leastUncoveredWithin, Cond.code yX0_leastUncoveredWithin cX0_leastUncoveredWithin 5 (some .int), Cond.methodLink RX0 60 yX0_isLess, Cond.instanceMethod yX0_isLess, Cond.selects RX0 yX0_isLess yX0_isLess, Cond.code yX0_isLess cX0_isLess 4 (some .boolean), Cond.methodLink RX0 64 yX0_weightOfSet, Cond.instanceMethod yX0_weightOfSet, Cond.selects RX0 yX0_weightOfSet yX0_weightOfSet]
def wsL_uncovered_r6 : List Cond := [Cond.code yX0_weightOfSet cX0_weightOfSet 2 (some .int)]
def wsL_uncovered : List Cond := .codeWith yL_uncovered cL_uncovered 4 (some .int) [(0, 9, 12, 13)] :: ((wsL_uncovered_r1 ++ (wsL_uncovered_r2 ++ (wsL_uncovered_r3 ++ (wsL_uncovered_r4 ++ (wsL_uncovered_r5 ++ wsL_uncovered_r6))))) ++ wsX20 ++ wsX10 ++ wsX00 ++ wsJx4a65c0 ++ (vx_atS RX2 175 "java/lang/IndexOutOfBoundsException" ["java/lang/RuntimeException", "java/lang/Exception"]).filter goodWord)
def wsL_gapByAll_r1 : List Cond := [Cond.classLink RL 13 "java/lang/IndexOutOfBoundsException", Cond.classLink RL 20 "java/lang/IllegalStateException", Cond.methodLink RL 70 yX2_gapByAll, Cond.instanceMethod yX2_gapByAll, Cond.selects RX2 yX2_gapByAll yX2_gapByAll, Cond.initialized RX2, Cond.code yX2_gapByAll cX2_gapByAll 4 (some .int), Cond.fieldLink RX2 33 "LicenceKeeper" "held" "Ljava/util/ArrayList;", Cond.classLink RX2 84 "LicenceKeeper$Right", Cond.fieldLink RX2 86 "LicenceKeeper$Right" "product" "I", Cond.fieldLink RX2 112 "LicenceKeeper$Right" "count" "I", Cond.fieldLink RX2 13 "LicenceKeeper" "hosts" "[I", Cond.fieldLink RX2 40 "LicenceKeeper" "layings" "LLicenceKeeper$Layings;", Cond.methodLink RX2 66 yX2_requireProduct, Cond.static yX2_requireProduct, Cond.code yX2_requireProduct cX2_requireProduct 1 none, Cond.classLink RX2 171 "java/lang/IndexOutOfBoundsException", Cond.initialized "java/lang/IndexOutOfBoundsException", Cond.methodLink RX2 139 yX2_requireFewRights, Cond.instanceMethod yX2_requireFewRights, Cond.selects RX2 yX2_requireFewRights yX2_requireFewRights, Cond.code yX2_requireFewRights cX2_requireFewRights 5 none, Cond.classLink RX2 69 "java/lang/IllegalStateException", Cond.initialized "java/lang/IllegalStateException"]
def wsL_gapByAll_r2 : List Cond := [Cond.methodLink RX2 76 yJx4a65c_size_8abf5, Cond.instanceMethod yJx4a65c_size_8abf5, Cond.selects RJx4a65c yJx4a65c_size_8abf5 yJx4a65c_size_8abf5, Cond.initialized RJx4a65c, Cond.code yJx4a65c_size_8abf5 cJx4a65c_size_8abf5 1 (some .int), Cond.fieldLink RJx4a65c 48 "java/util/ArrayList" "size" "I", Cond.methodLink RX2 80 yJx4a65c_get_915e3, Cond.instanceMethod yJx4a65c_get_915e3, Cond.selects RJx4a65c yJx4a65c_get_915e3 yJx4a65c_get_915e3, Cond.code yJx4a65c_get_915e3 cJx4a65c_get_915e3 2 (some (.object "java/lang/Object")), Cond.methodLink RJx4a65c 118 yJ15_checkIndex_7cf53, Cond.static yJ15_checkIndex_7cf53, Cond.initialized RJ15, Cond.code yJ15_checkIndex_7cf53 cJ15_checkIndex_7cf53 2 (some .int), Cond.methodLink RJ15 105 yJ3_checkIndex_8e157, Cond.static yJ3_checkIndex_8e157, Cond.initialized RJ3, Cond.code yJ3_checkIndex_8e157 cJ3_checkIndex_8e157 3 (some .int), Cond.methodLink RJx4a65c 123 yJx4a65c_elementData_915e3, Cond.instanceMethod yJx4a65c_elementData_915e3, Cond.selects RJx4a65c yJx4a65c_elementData_915e3 yJx4a65c_elementData_915e3, Cond.code yJx4a65c_elementData_915e3 cJx4a65c_elementData_915e3 2 (some (.object "java/lang/Object")), Cond.fieldLink RJx4a65c 9 "java/util/ArrayList" "elementData" "[Ljava/lang/Object;", Cond.methodLink RX2 142 yX2_startLayings]
def wsL_gapByAll_r3 : List Cond := [Cond.instanceMethod yX2_startLayings, Cond.selects RX2 yX2_startLayings yX2_startLayings, Cond.code yX2_startLayings cX2_startLayings 3 none, Cond.fieldLink RX2 21 "LicenceKeeper" "found" "[[I", Cond.methodLink RX2 214 yX0_clearAll, Cond.instanceMethod yX0_clearAll, Cond.selects RX0 yX0_clearAll yX0_clearAll, Cond.initialized RX0, Cond.code yX0_clearAll cX0_clearAll 1 none, Cond.fieldLink RX0 21 "LicenceKeeper$Layings" "havers" "I", Cond.fieldLink RX0 25 "LicenceKeeper$Layings" "taken" "[I", Cond.constant RX0 34 (1000000), Cond.methodLink RX0 35 yJ7_fill_53178, Cond.static yJ7_fill_53178, Cond.initialized RJ7, Cond.code yJ7_fill_53178 cJ7_fill_53178 4 none, Cond.methodLink RX2 123 yX2_weightOn, Cond.instanceMethod yX2_weightOn, Cond.selects RX2 yX2_weightOn yX2_weightOn, Cond.code yX2_weightOn cX2_weightOn 3 (some .int), Cond.fieldLink RX2 9 "LicenceKeeper" "cores" "[I", Cond.fieldLink RX2 27 "LicenceKeeper" "prices" "[I", Cond.methodLink RX2 217 yX0_weigh, Cond.instanceMethod yX0_weigh]
def wsL_gapByAll_r4 : List Cond := [Cond.selects RX0 yX0_weigh yX0_weigh, Cond.code yX0_weigh cX0_weigh 6 none, Cond.fieldLink RX0 18 "LicenceKeeper$Layings" "setWeights" "[I", Cond.methodLink RX2 145 yX2_takeUp, Cond.instanceMethod yX2_takeUp, Cond.selects RX2 yX2_takeUp yX2_takeUp, Cond.code yX2_takeUp cX2_takeUp 4 none, Cond.fieldLink RX2 221 "LicenceKeeper$Layings" "machineTakes" "[I", Cond.fieldLink RX2 228 "LicenceKeeper$Layings" "machineCovers" "[I", Cond.methodLink RX2 224 yX2_takenOn, Cond.instanceMethod yX2_takenOn, Cond.selects RX2 yX2_takenOn yX2_takenOn, Cond.code yX2_takenOn cX2_takenOn 3 (some .int), Cond.fieldLink RX2 115 "LicenceKeeper$Right" "measure" "I", Cond.methodLink RX2 206 Lib.Math.max.name, Cond.static Lib.Math.max.name, Cond.initialized "java/lang/Math", Cond.code Lib.Math.max.name Lib.Math.max.code 2 (some .int), Cond.methodLink RX2 127 yX2_coverOn, Cond.instanceMethod yX2_coverOn, Cond.selects RX2 yX2_coverOn yX2_coverOn, Cond.code yX2_coverOn cX2_coverOn 8 (some .int), Cond.fieldLink RX2 89 "LicenceKeeper$Right" "version" "I", Cond.methodLink RX2 149 yX0_layOnAllSets]
def wsL_gapByAll_r5 : List Cond := [Cond.instanceMethod yX0_layOnAllSets, Cond.selects RX0 yX0_layOnAllSets yX0_layOnAllSets, Cond.code yX0_layOnAllSets cX0_layOnAllSets 3 none, Cond.fieldLink RX0 31 "LicenceKeeper$Layings" "setCovers" "[I", Cond.fieldLink RX0 28 "LicenceKeeper$Layings" "takenNext" "[I", Cond.methodLink RX0 54 arraycopyName, Cond.native arraycopyName, Cond.static arraycopyName, Cond.initialized "java/lang/System", Cond.methodLink RX0 47 yX0_coverOfSet, Cond.instanceMethod yX0_coverOfSet, Cond.selects RX0 yX0_coverOfSet yX0_coverOfSet, Cond.code yX0_coverOfSet cX0_coverOfSet 6 (some .int), Cond.fieldLink RX0 9 "LicenceKeeper$Layings" "machineTakes" "[I", Cond.fieldLink RX0 15 "LicenceKeeper$Layings" "machineCovers" "[I", Cond.methodLink RX0 50 yX0_addToAll, Cond.instanceMethod yX0_addToAll, Cond.selects RX0 yX0_addToAll yX0_addToAll, Cond.code yX0_addToAll cX0_addToAll 3 none, Cond.methodLink RX2 152 yX0_leastUncoveredWithin, Cond.instanceMethod yX0_leastUncoveredWithin, Cond.selects RX0 yX0_leastUncoveredWithin yX0_leastUncoveredWithin, Cond.code yX0_leastUncoveredWithin cX0_leastUncoveredWithin 5 (some .int), Cond.methodLink RX0 60 yX0_isLess]
def wsL_gapByAll_r6 : List Cond := [Cond.instanceMethod yX0_isLess, Cond.selects RX0 yX0_isLess yX0_isLess, Cond.code yX0_isLess cX0_isLess 4 (some .boolean), Cond.methodLink RX0 64 yX0_weightOfSet, Cond.instanceMethod yX0_weightOfSet, Cond.selects RX0 yX0_weightOfSet yX0_weightOfSet, Cond.code yX0_weightOfSet cX0_weightOfSet 2 (some .int), Cond.methodLink RX2 135 yX0_weightOfSet]
def wsL_gapByAll : List Cond := .codeWith yL_gapByAll cL_gapByAll 4 (some .int) [(0, 9, 12, 13), (0, 9, 15, 20)] :: ((wsL_gapByAll_r1 ++ (wsL_gapByAll_r2 ++ (wsL_gapByAll_r3 ++ (wsL_gapByAll_r4 ++ (wsL_gapByAll_r5 ++ wsL_gapByAll_r6))))) ++ wsX20 ++ wsX10 ++ wsJx4a65c0 ++ wsX00 ++ (vx_atS RX2 175 "java/lang/IndexOutOfBoundsException" ["java/lang/RuntimeException", "java/lang/Exception"]).filter goodWord ++ (vx_atS RX2 73 "java/lang/IllegalStateException" ["java/lang/RuntimeException", "java/lang/Exception"]).filter goodWord)
def wsL_gapIf_r1 : List Cond := [Cond.classLink RL 13 "java/lang/IndexOutOfBoundsException", Cond.classLink RL 15 "java/lang/IllegalArgumentException", Cond.classLink RL 20 "java/lang/IllegalStateException", Cond.methodLink RL 73 yX2_gapIf, Cond.instanceMethod yX2_gapIf, Cond.selects RX2 yX2_gapIf yX2_gapIf, Cond.initialized RX2, Cond.code yX2_gapIf cX2_gapIf 4 (some .int), Cond.fieldLink RX2 13 "LicenceKeeper" "hosts" "[I", Cond.fieldLink RX2 16 "LicenceKeeper" "supposedHosts" "[I", Cond.methodLink RX2 155 arraycopyName, Cond.native arraycopyName, Cond.static arraycopyName, Cond.initialized "java/lang/System", Cond.fieldLink RX2 40 "LicenceKeeper" "layings" "LLicenceKeeper$Layings;", Cond.methodLink RX2 66 yX2_requireProduct, Cond.static yX2_requireProduct, Cond.code yX2_requireProduct cX2_requireProduct 1 none, Cond.classLink RX2 171 "java/lang/IndexOutOfBoundsException", Cond.initialized "java/lang/IndexOutOfBoundsException", Cond.methodLink RX2 62 yX2_requireMovable, Cond.instanceMethod yX2_requireMovable, Cond.selects RX2 yX2_requireMovable yX2_requireMovable, Cond.code yX2_requireMovable cX2_requireMovable 3 none]
def wsL_gapIf_r2 : List Cond := [Cond.classLink RX2 178 "java/lang/IllegalArgumentException", Cond.initialized "java/lang/IllegalArgumentException", Cond.classLink RX2 69 "java/lang/IllegalStateException", Cond.initialized "java/lang/IllegalStateException", Cond.methodLink RX2 54 yX2_requireMachine, Cond.static yX2_requireMachine, Cond.code yX2_requireMachine cX2_requireMachine 1 none, Cond.methodLink RX2 189 yX2_isHost, Cond.instanceMethod yX2_isHost, Cond.selects RX2 yX2_isHost yX2_isHost, Cond.code yX2_isHost cX2_isHost 3 (some .boolean), Cond.methodLink RX2 131 yX2_leastUncovered, Cond.instanceMethod yX2_leastUncovered, Cond.selects RX2 yX2_leastUncovered yX2_leastUncovered, Cond.code yX2_leastUncovered cX2_leastUncovered 3 (some .int), Cond.methodLink RX2 161 yX2_layAllBut, Cond.instanceMethod yX2_layAllBut, Cond.selects RX2 yX2_layAllBut yX2_layAllBut, Cond.code yX2_layAllBut cX2_layAllBut 6 none, Cond.fieldLink RX2 33 "LicenceKeeper" "held" "Ljava/util/ArrayList;", Cond.classLink RX2 84 "LicenceKeeper$Right", Cond.fieldLink RX2 86 "LicenceKeeper$Right" "product" "I", Cond.fieldLink RX2 112 "LicenceKeeper$Right" "count" "I", Cond.methodLink RX2 142 yX2_startLayings]
def wsL_gapIf_r3 : List Cond := [Cond.instanceMethod yX2_startLayings, Cond.selects RX2 yX2_startLayings yX2_startLayings, Cond.code yX2_startLayings cX2_startLayings 3 none, Cond.fieldLink RX2 21 "LicenceKeeper" "found" "[[I", Cond.methodLink RX2 214 yX0_clearAll, Cond.instanceMethod yX0_clearAll, Cond.selects RX0 yX0_clearAll yX0_clearAll, Cond.initialized RX0, Cond.code yX0_clearAll cX0_clearAll 1 none, Cond.fieldLink RX0 21 "LicenceKeeper$Layings" "havers" "I", Cond.fieldLink RX0 25 "LicenceKeeper$Layings" "taken" "[I", Cond.constant RX0 34 (1000000), Cond.methodLink RX0 35 yJ7_fill_53178, Cond.static yJ7_fill_53178, Cond.initialized RJ7, Cond.code yJ7_fill_53178 cJ7_fill_53178 4 none, Cond.methodLink RX2 123 yX2_weightOn, Cond.instanceMethod yX2_weightOn, Cond.selects RX2 yX2_weightOn yX2_weightOn, Cond.code yX2_weightOn cX2_weightOn 3 (some .int), Cond.fieldLink RX2 9 "LicenceKeeper" "cores" "[I", Cond.fieldLink RX2 27 "LicenceKeeper" "prices" "[I", Cond.methodLink RX2 217 yX0_weigh, Cond.instanceMethod yX0_weigh]
def wsL_gapIf_r4 : List Cond := [Cond.selects RX0 yX0_weigh yX0_weigh, Cond.code yX0_weigh cX0_weigh 6 none, Cond.fieldLink RX0 18 "LicenceKeeper$Layings" "setWeights" "[I", Cond.methodLink RX2 76 yJx4a65c_size_8abf5, Cond.instanceMethod yJx4a65c_size_8abf5, Cond.selects RJx4a65c yJx4a65c_size_8abf5 yJx4a65c_size_8abf5, Cond.initialized RJx4a65c, Cond.code yJx4a65c_size_8abf5 cJx4a65c_size_8abf5 1 (some .int), Cond.fieldLink RJx4a65c 48 "java/util/ArrayList" "size" "I", Cond.methodLink RX2 80 yJx4a65c_get_915e3, Cond.instanceMethod yJx4a65c_get_915e3, Cond.selects RJx4a65c yJx4a65c_get_915e3 yJx4a65c_get_915e3, Cond.code yJx4a65c_get_915e3 cJx4a65c_get_915e3 2 (some (.object "java/lang/Object")), Cond.methodLink RJx4a65c 118 yJ15_checkIndex_7cf53, Cond.static yJ15_checkIndex_7cf53, Cond.initialized RJ15, Cond.code yJ15_checkIndex_7cf53 cJ15_checkIndex_7cf53 2 (some .int), Cond.methodLink RJ15 105 yJ3_checkIndex_8e157, Cond.static yJ3_checkIndex_8e157, Cond.initialized RJ3, Cond.code yJ3_checkIndex_8e157 cJ3_checkIndex_8e157 3 (some .int), Cond.methodLink RJx4a65c 123 yJx4a65c_elementData_915e3, Cond.instanceMethod yJx4a65c_elementData_915e3, Cond.selects RJx4a65c yJx4a65c_elementData_915e3 yJx4a65c_elementData_915e3]
def wsL_gapIf_r5 : List Cond := [Cond.code yJx4a65c_elementData_915e3 cJx4a65c_elementData_915e3 2 (some (.object "java/lang/Object")), Cond.fieldLink RJx4a65c 9 "java/util/ArrayList" "elementData" "[Ljava/lang/Object;", Cond.methodLink RX2 145 yX2_takeUp, Cond.instanceMethod yX2_takeUp, Cond.selects RX2 yX2_takeUp yX2_takeUp, Cond.code yX2_takeUp cX2_takeUp 4 none, Cond.fieldLink RX2 221 "LicenceKeeper$Layings" "machineTakes" "[I", Cond.fieldLink RX2 228 "LicenceKeeper$Layings" "machineCovers" "[I", Cond.methodLink RX2 224 yX2_takenOn, Cond.instanceMethod yX2_takenOn, Cond.selects RX2 yX2_takenOn yX2_takenOn, Cond.code yX2_takenOn cX2_takenOn 3 (some .int), Cond.fieldLink RX2 115 "LicenceKeeper$Right" "measure" "I", Cond.methodLink RX2 206 Lib.Math.max.name, Cond.static Lib.Math.max.name, Cond.initialized "java/lang/Math", Cond.code Lib.Math.max.name Lib.Math.max.code 2 (some .int), Cond.methodLink RX2 127 yX2_coverOn, Cond.instanceMethod yX2_coverOn, Cond.selects RX2 yX2_coverOn yX2_coverOn, Cond.code yX2_coverOn cX2_coverOn 8 (some .int), Cond.fieldLink RX2 89 "LicenceKeeper$Right" "version" "I", Cond.methodLink RX2 165 yX0_layOpen, Cond.instanceMethod yX0_layOpen]
def wsL_gapIf_r6 : List Cond := [Cond.selects RX0 yX0_layOpen yX0_layOpen, Cond.code yX0_layOpen cX0_layOpen 6 none, Cond.fieldLink RX0 15 "LicenceKeeper$Layings" "machineCovers" "[I", Cond.fieldLink RX0 9 "LicenceKeeper$Layings" "machineTakes" "[I", Cond.methodLink RX0 41 Lib.Math.min.name, Cond.static Lib.Math.min.name, Cond.code Lib.Math.min.name Lib.Math.min.code 2 (some .int), Cond.methodLink RX2 211 yX0_closeWithin, Cond.instanceMethod yX0_closeWithin, Cond.selects RX0 yX0_closeWithin yX0_closeWithin, Cond.code yX0_closeWithin cX0_closeWithin 3 none, Cond.methodLink RX2 152 yX0_leastUncoveredWithin, Cond.instanceMethod yX0_leastUncoveredWithin, Cond.selects RX0 yX0_leastUncoveredWithin yX0_leastUncoveredWithin, Cond.code yX0_leastUncoveredWithin cX0_leastUncoveredWithin 5 (some .int), Cond.methodLink RX0 60 yX0_isLess, Cond.instanceMethod yX0_isLess, Cond.selects RX0 yX0_isLess yX0_isLess, Cond.code yX0_isLess cX0_isLess 4 (some .boolean), Cond.methodLink RX0 64 yX0_weightOfSet, Cond.instanceMethod yX0_weightOfSet, Cond.selects RX0 yX0_weightOfSet yX0_weightOfSet, Cond.code yX0_weightOfSet cX0_weightOfSet 2 (some .int), Cond.methodLink RX2 135 yX0_weightOfSet]
def wsL_gapIf : List Cond := .codeWith yL_gapIf cL_gapIf 6 (some .int) [(0, 12, 15, 13), (0, 12, 19, 15), (0, 12, 23, 20)] :: ((wsL_gapIf_r1 ++ (wsL_gapIf_r2 ++ (wsL_gapIf_r3 ++ (wsL_gapIf_r4 ++ (wsL_gapIf_r5 ++ wsL_gapIf_r6))))) ++ wsX20 ++ wsX10 ++ wsX00 ++ wsJx4a65c0 ++ (vx_atS RX2 175 "java/lang/IndexOutOfBoundsException" ["java/lang/RuntimeException", "java/lang/Exception"]).filter goodWord ++ (vx_atS RX2 182 "java/lang/IllegalArgumentException" ["java/lang/RuntimeException", "java/lang/Exception"]).filter goodWord ++ (vx_atS RX2 73 "java/lang/IllegalStateException" ["java/lang/RuntimeException", "java/lang/Exception"]).filter goodWord)
def wsL_spare_r1 : List Cond := [Cond.classLink RL 13 "java/lang/IndexOutOfBoundsException", Cond.methodLink RL 76 yX2_spare, Cond.instanceMethod yX2_spare, Cond.selects RX2 yX2_spare yX2_spare, Cond.initialized RX2, Cond.code yX2_spare cX2_spare 4 (some .int), Cond.fieldLink RX2 86 "LicenceKeeper$Right" "product" "I", Cond.fieldLink RX2 13 "LicenceKeeper" "hosts" "[I", Cond.fieldLink RX2 40 "LicenceKeeper" "layings" "LLicenceKeeper$Layings;", Cond.fieldLink RX2 112 "LicenceKeeper$Right" "count" "I", Cond.methodLink RX2 102 yX2_rightAt, Cond.instanceMethod yX2_rightAt, Cond.selects RX2 yX2_rightAt yX2_rightAt, Cond.code yX2_rightAt cX2_rightAt 2 (some (.object "LicenceKeeper$Right")), Cond.classLink RX2 171 "java/lang/IndexOutOfBoundsException", Cond.initialized "java/lang/IndexOutOfBoundsException", Cond.fieldLink RX2 33 "LicenceKeeper" "held" "Ljava/util/ArrayList;", Cond.classLink RX2 84 "LicenceKeeper$Right", Cond.methodLink RX2 76 yJx4a65c_size_8abf5, Cond.instanceMethod yJx4a65c_size_8abf5, Cond.selects RJx4a65c yJx4a65c_size_8abf5 yJx4a65c_size_8abf5, Cond.initialized RJx4a65c, Cond.code yJx4a65c_size_8abf5 cJx4a65c_size_8abf5 1 (some .int), Cond.fieldLink RJx4a65c 48 "java/util/ArrayList" "size" "I"]
def wsL_spare_r2 : List Cond := [Cond.methodLink RX2 80 yJx4a65c_get_915e3, Cond.instanceMethod yJx4a65c_get_915e3, Cond.selects RJx4a65c yJx4a65c_get_915e3 yJx4a65c_get_915e3, Cond.code yJx4a65c_get_915e3 cJx4a65c_get_915e3 2 (some (.object "java/lang/Object")), Cond.methodLink RJx4a65c 118 yJ15_checkIndex_7cf53, Cond.static yJ15_checkIndex_7cf53, Cond.initialized RJ15, Cond.code yJ15_checkIndex_7cf53 cJ15_checkIndex_7cf53 2 (some .int), Cond.methodLink RJ15 105 yJ3_checkIndex_8e157, Cond.static yJ3_checkIndex_8e157, Cond.initialized RJ3, Cond.code yJ3_checkIndex_8e157 cJ3_checkIndex_8e157 3 (some .int), Cond.methodLink RJx4a65c 123 yJx4a65c_elementData_915e3, Cond.instanceMethod yJx4a65c_elementData_915e3, Cond.selects RJx4a65c yJx4a65c_elementData_915e3 yJx4a65c_elementData_915e3, Cond.code yJx4a65c_elementData_915e3 cJx4a65c_elementData_915e3 2 (some (.object "java/lang/Object")), Cond.fieldLink RJx4a65c 9 "java/util/ArrayList" "elementData" "[Ljava/lang/Object;", Cond.methodLink RX2 161 yX2_layAllBut, Cond.instanceMethod yX2_layAllBut, Cond.selects RX2 yX2_layAllBut yX2_layAllBut, Cond.code yX2_layAllBut cX2_layAllBut 6 none, Cond.methodLink RX2 142 yX2_startLayings, Cond.instanceMethod yX2_startLayings, Cond.selects RX2 yX2_startLayings yX2_startLayings]
def wsL_spare_r3 : List Cond := [Cond.code yX2_startLayings cX2_startLayings 3 none, Cond.fieldLink RX2 21 "LicenceKeeper" "found" "[[I", Cond.methodLink RX2 214 yX0_clearAll, Cond.instanceMethod yX0_clearAll, Cond.selects RX0 yX0_clearAll yX0_clearAll, Cond.initialized RX0, Cond.code yX0_clearAll cX0_clearAll 1 none, Cond.fieldLink RX0 21 "LicenceKeeper$Layings" "havers" "I", Cond.fieldLink RX0 25 "LicenceKeeper$Layings" "taken" "[I", Cond.constant RX0 34 (1000000), Cond.methodLink RX0 35 yJ7_fill_53178, Cond.static yJ7_fill_53178, Cond.initialized RJ7, Cond.code yJ7_fill_53178 cJ7_fill_53178 4 none, Cond.methodLink RX2 123 yX2_weightOn, Cond.instanceMethod yX2_weightOn, Cond.selects RX2 yX2_weightOn yX2_weightOn, Cond.code yX2_weightOn cX2_weightOn 3 (some .int), Cond.fieldLink RX2 9 "LicenceKeeper" "cores" "[I", Cond.fieldLink RX2 27 "LicenceKeeper" "prices" "[I", Cond.methodLink RX2 217 yX0_weigh, Cond.instanceMethod yX0_weigh, Cond.selects RX0 yX0_weigh yX0_weigh, Cond.code yX0_weigh cX0_weigh 6 none]
def wsL_spare_r4 : List Cond := [Cond.fieldLink RX0 18 "LicenceKeeper$Layings" "setWeights" "[I", Cond.methodLink RX2 145 yX2_takeUp, Cond.instanceMethod yX2_takeUp, Cond.selects RX2 yX2_takeUp yX2_takeUp, Cond.code yX2_takeUp cX2_takeUp 4 none, Cond.fieldLink RX2 221 "LicenceKeeper$Layings" "machineTakes" "[I", Cond.fieldLink RX2 228 "LicenceKeeper$Layings" "machineCovers" "[I", Cond.methodLink RX2 224 yX2_takenOn, Cond.instanceMethod yX2_takenOn, Cond.selects RX2 yX2_takenOn yX2_takenOn, Cond.code yX2_takenOn cX2_takenOn 3 (some .int), Cond.fieldLink RX2 115 "LicenceKeeper$Right" "measure" "I", Cond.methodLink RX2 206 Lib.Math.max.name, Cond.static Lib.Math.max.name, Cond.initialized "java/lang/Math", Cond.code Lib.Math.max.name Lib.Math.max.code 2 (some .int), Cond.methodLink RX2 127 yX2_coverOn, Cond.instanceMethod yX2_coverOn, Cond.selects RX2 yX2_coverOn yX2_coverOn, Cond.code yX2_coverOn cX2_coverOn 8 (some .int), Cond.fieldLink RX2 89 "LicenceKeeper$Right" "version" "I", Cond.methodLink RX2 165 yX0_layOpen, Cond.instanceMethod yX0_layOpen, Cond.selects RX0 yX0_layOpen yX0_layOpen]
def wsL_spare_r5 : List Cond := [Cond.code yX0_layOpen cX0_layOpen 6 none, Cond.fieldLink RX0 15 "LicenceKeeper$Layings" "machineCovers" "[I", Cond.fieldLink RX0 9 "LicenceKeeper$Layings" "machineTakes" "[I", Cond.methodLink RX0 41 Lib.Math.min.name, Cond.static Lib.Math.min.name, Cond.code Lib.Math.min.name Lib.Math.min.code 2 (some .int), Cond.methodLink RX2 211 yX0_closeWithin, Cond.instanceMethod yX0_closeWithin, Cond.selects RX0 yX0_closeWithin yX0_closeWithin, Cond.code yX0_closeWithin cX0_closeWithin 3 none, Cond.methodLink RX2 152 yX0_leastUncoveredWithin, Cond.instanceMethod yX0_leastUncoveredWithin, Cond.selects RX0 yX0_leastUncoveredWithin yX0_leastUncoveredWithin, Cond.code yX0_leastUncoveredWithin cX0_leastUncoveredWithin 5 (some .int), Cond.methodLink RX0 60 yX0_isLess, Cond.instanceMethod yX0_isLess, Cond.selects RX0 yX0_isLess yX0_isLess, Cond.code yX0_isLess cX0_isLess 4 (some .boolean), Cond.methodLink RX0 64 yX0_weightOfSet, Cond.instanceMethod yX0_weightOfSet, Cond.selects RX0 yX0_weightOfSet yX0_weightOfSet, Cond.code yX0_weightOfSet cX0_weightOfSet 2 (some .int), Cond.methodLink RX2 135 yX0_weightOfSet, Cond.methodLink RX2 168 yX0_leastTakenFor]
def wsL_spare_r6 : List Cond := [Cond.instanceMethod yX0_leastTakenFor, Cond.selects RX0 yX0_leastTakenFor yX0_leastTakenFor, Cond.code yX0_leastTakenFor cX0_leastTakenFor 4 (some .int)]
def wsL_spare : List Cond := .codeWith yL_spare cL_spare 4 (some .int) [(0, 9, 12, 13)] :: ((wsL_spare_r1 ++ (wsL_spare_r2 ++ (wsL_spare_r3 ++ (wsL_spare_r4 ++ (wsL_spare_r5 ++ wsL_spare_r6))))) ++ wsX10 ++ wsX20 ++ wsJx4a65c0 ++ wsX00 ++ (vx_atS RX2 175 "java/lang/IndexOutOfBoundsException" ["java/lang/RuntimeException", "java/lang/Exception"]).filter goodWord)
def wsL_law0_r1 : List Cond := [Cond.classLink RL 8 RX2, Cond.instantiable RX2 9, Cond.initialized RX2, Cond.classLink RL 80 RX3, Cond.instantiable RX3 19, Cond.initialized RX3, Cond.arrayClass .long, Cond.methodLink RL 79 yX2_init, Cond.instanceMethod yX2_init, Cond.code yX2_init cX2_init 1 none, Cond.methodLink RX2 3 objectInit, Cond.instanceMethod objectInit, Cond.code objectInit ⟨#[0xb1]⟩ 1 none, Cond.arrayClass .int, Cond.fieldLink RX2 9 "LicenceKeeper" "cores" "[I", Cond.fieldLink RX2 13 "LicenceKeeper" "hosts" "[I", Cond.fieldLink RX2 16 "LicenceKeeper" "supposedHosts" "[I", Cond.classLink RX2 19 "[[I", Cond.fieldLink RX2 21 "LicenceKeeper" "found" "[[I", Cond.fieldLink RX2 24 "LicenceKeeper" "latestVersions" "[I", Cond.fieldLink RX2 27 "LicenceKeeper" "prices" "[I", Cond.classLink RX2 30 RJx4a65c, Cond.instantiable RJx4a65c 3, Cond.initialized RJx4a65c]
def wsL_law0_r2 : List Cond := [Cond.fieldLink RX2 33 "LicenceKeeper" "held" "Ljava/util/ArrayList;", Cond.classLink RX2 37 RX0, Cond.instantiable RX0 7, Cond.initialized RX0, Cond.fieldLink RX2 40 "LicenceKeeper" "layings" "LLicenceKeeper$Layings;", Cond.fieldLink RX2 44 "LicenceKeeper" "day" "I", Cond.methodLink RX2 32 yJx4a65c_init_da8c8, Cond.instanceMethod yJx4a65c_init_da8c8, Cond.code yJx4a65c_init_da8c8 cJx4a65c_init_da8c8 1 none, Cond.fieldLink RJx4a65c 39 "java/util/ArrayList" "DEFAULTCAPACITY_EMPTY_ELEMENTDATA" "[Ljava/lang/Object;", Cond.fieldLink RJx4a65c 9 "java/util/ArrayList" "elementData" "[Ljava/lang/Object;", Cond.methodLink RJx4a65c 1 yJxc12de_init_da8c8, Cond.instanceMethod yJxc12de_init_da8c8, Cond.initialized RJxc12de, Cond.code yJxc12de_init_da8c8 cJxc12de_init_da8c8 1 none, Cond.fieldLink RJxc12de 7 "java/util/AbstractList" "modCount" "I", Cond.methodLink RJxc12de 1 yJxa1e45_init_da8c8, Cond.instanceMethod yJxa1e45_init_da8c8, Cond.initialized RJxa1e45, Cond.code yJxa1e45_init_da8c8 cJxa1e45_init_da8c8 1 none, Cond.methodLink RJxa1e45 1 objectInit, Cond.instanceMethod yX0_init, Cond.code yX0_init cX0_init 1 none, Cond.methodLink RX0 3 objectInit]
def wsL_law0_r3 : List Cond := [Cond.fieldLink RX0 9 "LicenceKeeper$Layings" "machineTakes" "[I", Cond.fieldLink RX0 15 "LicenceKeeper$Layings" "machineCovers" "[I", Cond.fieldLink RX0 18 "LicenceKeeper$Layings" "setWeights" "[I", Cond.fieldLink RX0 21 "LicenceKeeper$Layings" "havers" "I", Cond.fieldLink RX0 25 "LicenceKeeper$Layings" "taken" "[I", Cond.fieldLink RX0 28 "LicenceKeeper$Layings" "takenNext" "[I", Cond.fieldLink RX0 31 "LicenceKeeper$Layings" "setCovers" "[I", Cond.methodLink RX2 48 yJ7_fill_53178, Cond.static yJ7_fill_53178, Cond.initialized RJ7, Cond.code yJ7_fill_53178 cJ7_fill_53178 4 none, Cond.methodLink RL 82 yX3_init, Cond.instanceMethod yX3_init, Cond.code yX3_init cX3_init 2 none, Cond.methodLink RX3 1 objectInit, Cond.fieldLink RX3 7 "LicenceKeeperModel" "cores" "[I", Cond.fieldLink RX3 13 "LicenceKeeperModel" "host" "[I", Cond.fieldLink RX3 16 "LicenceKeeperModel" "version" "[I", Cond.fieldLink RX3 19 "LicenceKeeperModel" "latest" "[I", Cond.fieldLink RX3 22 "LicenceKeeperModel" "price" "[I", Cond.fieldLink RX3 25 "LicenceKeeperModel" "product" "[I", Cond.fieldLink RX3 28 "LicenceKeeperModel" "measure" "[I", Cond.fieldLink RX3 31 "LicenceKeeperModel" "count" "[I", Cond.fieldLink RX3 34 "LicenceKeeperModel" "lent" "[I"]
def wsL_law0_r4 : List Cond := [Cond.fieldLink RX3 37 "LicenceKeeperModel" "of" "[I", Cond.fieldLink RX3 40 "LicenceKeeperModel" "last" "[I", Cond.arrayClass .boolean, Cond.fieldLink RX3 43 "LicenceKeeperModel" "can" "[Z", Cond.fieldLink RX3 47 "LicenceKeeperModel" "then" "[Z", Cond.fieldLink RX3 50 "LicenceKeeperModel" "takes" "[I", Cond.fieldLink RX3 53 "LicenceKeeperModel" "spread" "[I", Cond.methodLink RL 83 yL_setCores, Cond.static yL_setCores, Cond.initialized RL, Cond.codeWith yL_setCores cL_setCores 5 (some .int) [(0, 10, 13, 13), (0, 10, 17, 15)], Cond.classLink RL 13 "java/lang/IndexOutOfBoundsException", Cond.classLink RL 15 "java/lang/IllegalArgumentException", Cond.methodLink RL 7 yX2_setCores, Cond.instanceMethod yX2_setCores, Cond.selects RX2 yX2_setCores yX2_setCores, Cond.code yX2_setCores cX2_setCores 4 (some .int), Cond.methodLink RX2 54 yX2_requireMachine, Cond.static yX2_requireMachine, Cond.code yX2_requireMachine cX2_requireMachine 1 none, Cond.classLink RX2 171 "java/lang/IndexOutOfBoundsException", Cond.initialized "java/lang/IndexOutOfBoundsException", Cond.methodLink RX2 58 yX2_requireRange, Cond.static yX2_requireRange]
def wsL_law0_r5 : List Cond := [Cond.code yX2_requireRange cX2_requireRange 3 none, Cond.classLink RX2 178 "java/lang/IllegalArgumentException", Cond.initialized "java/lang/IllegalArgumentException", Cond.methodLink RL 88 yX3_setCores, Cond.instanceMethod yX3_setCores, Cond.selects RX3 yX3_setCores yX3_setCores, Cond.code yX3_setCores cX3_setCores 4 (some .int), Cond.fieldLink RX3 56 "LicenceKeeperModel" "thrown" "I", Cond.methodLink RX3 67 yX3_isMachine, Cond.static yX3_isMachine, Cond.code yX3_isMachine cX3_isMachine 1 (some .boolean), Cond.methodLink RX3 60 yX3_in, Cond.static yX3_in, Cond.code yX3_in cX3_in 3 (some .boolean), Cond.methodLink RX3 71 yX3_fails, Cond.instanceMethod yX3_fails, Cond.selects RX3 yX3_fails yX3_fails, Cond.code yX3_fails cX3_fails 2 (some .int), Cond.methodLink RL 89 yX3_thrown, Cond.instanceMethod yX3_thrown, Cond.selects RX3 yX3_thrown yX3_thrown, Cond.code yX3_thrown cX3_thrown 1 (some .int), Cond.methodLink RL 93 yL_move, Cond.static yL_move]
def wsL_law0_r6 : List Cond := [Cond.codeWith yL_move cL_move 5 (some .int) [(0, 10, 13, 13), (0, 10, 17, 15), (0, 10, 21, 20)], Cond.classLink RL 20 "java/lang/IllegalStateException", Cond.methodLink RL 17 yX2_move, Cond.instanceMethod yX2_move, Cond.selects RX2 yX2_move yX2_move, Cond.code yX2_move cX2_move 4 (some .int), Cond.methodLink RX2 62 yX2_requireMovable, Cond.instanceMethod yX2_requireMovable, Cond.selects RX2 yX2_requireMovable yX2_requireMovable, Cond.code yX2_requireMovable cX2_requireMovable 3 none, Cond.classLink RX2 69 "java/lang/IllegalStateException", Cond.initialized "java/lang/IllegalStateException", Cond.methodLink RX2 189 yX2_isHost, Cond.instanceMethod yX2_isHost, Cond.selects RX2 yX2_isHost yX2_isHost, Cond.code yX2_isHost cX2_isHost 3 (some .boolean), Cond.methodLink RL 95 yX3_move, Cond.instanceMethod yX3_move, Cond.selects RX3 yX3_move yX3_move, Cond.code yX3_move cX3_move 4 (some .int), Cond.methodLink RX3 78 yX3_refuses, Cond.instanceMethod yX3_refuses, Cond.selects RX3 yX3_refuses yX3_refuses, Cond.code yX3_refuses cX3_refuses 3 (some .int)]
def wsL_law0_r7 : List Cond := [Cond.methodLink RX3 75 yX3_isHost, Cond.instanceMethod yX3_isHost, Cond.selects RX3 yX3_isHost yX3_isHost, Cond.code yX3_isHost cX3_isHost 4 (some .boolean), Cond.methodLink RL 96 yL_find, Cond.static yL_find, Cond.codeWith yL_find cL_find 6 (some .int) [(0, 12, 15, 13), (0, 12, 19, 15)], Cond.methodLink RL 22 yX2_find, Cond.instanceMethod yX2_find, Cond.selects RX2 yX2_find yX2_find, Cond.code yX2_find cX2_find 5 (some .int), Cond.methodLink RX2 66 yX2_requireProduct, Cond.static yX2_requireProduct, Cond.code yX2_requireProduct cX2_requireProduct 1 none, Cond.methodLink RL 99 yX3_find, Cond.instanceMethod yX3_find, Cond.selects RX3 yX3_find yX3_find, Cond.code yX3_find cX3_find 5 (some .int), Cond.methodLink RX3 82 yX3_isProduct, Cond.static yX3_isProduct, Cond.code yX3_isProduct cX3_isProduct 1 (some .boolean), Cond.methodLink RL 100 yL_setPrice, Cond.static yL_setPrice, Cond.codeWith yL_setPrice cL_setPrice 5 (some .int) [(0, 10, 13, 13), (0, 10, 17, 15)]]
def wsL_law0_r8 : List Cond := [Cond.methodLink RL 26 yX2_setPrice, Cond.instanceMethod yX2_setPrice, Cond.selects RX2 yX2_setPrice yX2_setPrice, Cond.code yX2_setPrice cX2_setPrice 4 (some .int), Cond.methodLink RL 102 yX3_setPrice, Cond.instanceMethod yX3_setPrice, Cond.selects RX3 yX3_setPrice yX3_setPrice, Cond.code yX3_setPrice cX3_setPrice 4 (some .int), Cond.methodLink RL 103 yL_release, Cond.static yL_release, Cond.codeWith yL_release cL_release 4 (some .int) [(0, 9, 12, 13), (0, 9, 15, 20)], Cond.methodLink RL 29 yX2_release, Cond.instanceMethod yX2_release, Cond.selects RX2 yX2_release yX2_release, Cond.code yX2_release cX2_release 6 (some .int), Cond.classLink RX2 84 "LicenceKeeper$Right", Cond.fieldLink RX2 86 "LicenceKeeper$Right" "product" "I", Cond.fieldLink RX2 89 "LicenceKeeper$Right" "version" "I", Cond.fieldLink RX2 92 "LicenceKeeper$Right" "lastCareDay" "I", Cond.methodLink RX2 76 yJx4a65c_size_8abf5, Cond.instanceMethod yJx4a65c_size_8abf5, Cond.selects RJx4a65c yJx4a65c_size_8abf5 yJx4a65c_size_8abf5, Cond.code yJx4a65c_size_8abf5 cJx4a65c_size_8abf5 1 (some .int), Cond.fieldLink RJx4a65c 48 "java/util/ArrayList" "size" "I"]
def wsL_law0_r9 : List Cond := [Cond.methodLink RX2 80 yJx4a65c_get_915e3, Cond.instanceMethod yJx4a65c_get_915e3, Cond.selects RJx4a65c yJx4a65c_get_915e3 yJx4a65c_get_915e3, Cond.code yJx4a65c_get_915e3 cJx4a65c_get_915e3 2 (some (.object "java/lang/Object")), Cond.methodLink RJx4a65c 118 yJ15_checkIndex_7cf53, Cond.static yJ15_checkIndex_7cf53, Cond.initialized RJ15, Cond.code yJ15_checkIndex_7cf53 cJ15_checkIndex_7cf53 2 (some .int), Cond.methodLink RJ15 105 yJ3_checkIndex_8e157, Cond.static yJ3_checkIndex_8e157, Cond.initialized RJ3, Cond.code yJ3_checkIndex_8e157 cJ3_checkIndex_8e157 3 (some .int), Cond.methodLink RJx4a65c 123 yJx4a65c_elementData_915e3, Cond.instanceMethod yJx4a65c_elementData_915e3, Cond.selects RJx4a65c yJx4a65c_elementData_915e3 yJx4a65c_elementData_915e3, Cond.code yJx4a65c_elementData_915e3 cJx4a65c_elementData_915e3 2 (some (.object "java/lang/Object")), Cond.methodLink RL 106 yX3_release, Cond.instanceMethod yX3_release, Cond.selects RX3 yX3_release yX3_release, Cond.code yX3_release cX3_release 4 (some .int), Cond.fieldLink RX3 64 "LicenceKeeperModel" "rights" "I", Cond.fieldLink RX3 85 "LicenceKeeperModel" "now" "I", Cond.methodLink RL 107 yL_buy, Cond.static yL_buy]
def wsL_law0_r10 : List Cond := [Cond.codeWith yL_buy cL_buy 7 (some .int) [(0, 14, 17, 13), (0, 14, 21, 15), (0, 14, 25, 20)], Cond.methodLink RL 33 yX2_buy, Cond.instanceMethod yX2_buy, Cond.selects RX2 yX2_buy yX2_buy, Cond.code yX2_buy cX2_buy 5 (some .int), Cond.methodLink RX2 95 yX2_requireRoomForRight, Cond.instanceMethod yX2_requireRoomForRight, Cond.selects RX2 yX2_requireRoomForRight yX2_requireRoomForRight, Cond.code yX2_requireRoomForRight cX2_requireRoomForRight 1 none, Cond.methodLink RX2 98 yX2_addRight, Cond.instanceMethod yX2_addRight, Cond.selects RX2 yX2_addRight yX2_addRight, Cond.code yX2_addRight cX2_addRight 5 (some .int), Cond.classLink RX2 84 RX1, Cond.instantiable RX1 6, Cond.initialized RX1, Cond.methodLink RX2 199 yX1_init, Cond.instanceMethod yX1_init, Cond.code yX1_init cX1_init 6 none, Cond.methodLink RX1 1 objectInit, Cond.fieldLink RX1 7 "LicenceKeeper$Right" "lent" "I", Cond.fieldLink RX1 13 "LicenceKeeper$Right" "product" "I", Cond.fieldLink RX1 16 "LicenceKeeper$Right" "measure" "I", Cond.fieldLink RX1 19 "LicenceKeeper$Right" "count" "I"]
def wsL_law0_r11 : List Cond := [Cond.fieldLink RX1 22 "LicenceKeeper$Right" "version" "I", Cond.fieldLink RX1 25 "LicenceKeeper$Right" "lastCareDay" "I", Cond.methodLink RX2 202 yJx4a65c_add_9ea2d, Cond.instanceMethod yJx4a65c_add_9ea2d, Cond.selects RJx4a65c yJx4a65c_add_9ea2d yJx4a65c_add_9ea2d, Cond.code yJx4a65c_add_9ea2d cJx4a65c_add_9ea2d 2 (some .boolean), Cond.fieldLink RJx4a65c 63 "java/util/ArrayList" "modCount" "I", Cond.sameField "java/util/ArrayList" "java/util/AbstractList" "modCount" "I", Cond.methodLink RJx4a65c 131 yJx4a65c_add_72be8, Cond.instanceMethod yJx4a65c_add_72be8, Cond.selects RJx4a65c yJx4a65c_add_72be8 yJx4a65c_add_72be8, Cond.code yJx4a65c_add_72be8 cJx4a65c_add_72be8 4 none, Cond.methodLink RJx4a65c 129 yJx4a65c_grow_d5877, Cond.instanceMethod yJx4a65c_grow_d5877, Cond.selects RJx4a65c yJx4a65c_grow_d5877 yJx4a65c_grow_d5877, Cond.code yJx4a65c_grow_d5877 cJx4a65c_grow_d5877 1 (some (.array (.object "java/lang/Object"))), Cond.methodLink RJx4a65c 69 yJx4a65c_grow_92f84, Cond.instanceMethod yJx4a65c_grow_92f84, Cond.selects RJx4a65c yJx4a65c_grow_92f84 yJx4a65c_grow_92f84, Cond.code yJx4a65c_grow_92f84 cJx4a65c_grow_92f84 4 (some (.array (.object "java/lang/Object"))), Cond.methodLink RJx4a65c 79 Lib.Math.max.name, Cond.static Lib.Math.max.name, Cond.initialized "java/lang/Math", Cond.code Lib.Math.max.name Lib.Math.max.code 2 (some .int)]
def wsL_law0_r12 : List Cond := [Cond.classLink RJx4a65c 7 "java/lang/Object", Cond.methodLink RJx4a65c 73 yJ8_newLength_cabcc, Cond.static yJ8_newLength_cabcc, Cond.initialized RJ8, Cond.code yJ8_newLength_cabcc cJ8_newLength_cabcc 4 (some .int), Cond.methodLink RJ8 194 Lib.Math.max.name, Cond.constant RJ8 200 (2147483639), Cond.methodLink RJ8 201 yJ8_hugeLength_7cf53, Cond.static yJ8_hugeLength_7cf53, Cond.code yJ8_hugeLength_7cf53 cJ8_hugeLength_7cf53 3 (some .int), Cond.methodLink RJx4a65c 66 yJ7_copyOf_1904c, Cond.static yJ7_copyOf_1904c, Cond.code yJ7_copyOf_1904c cJ7_copyOf_1904c 2 (some (.array (.object "java/lang/Object"))), Cond.methodLink RJ7 86 ⟨"java/lang/Object", "getClass", "()Ljava/lang/Class;"⟩, Cond.selects "[Ljava/lang/Object;" ⟨"java/lang/Object", "getClass", "()Ljava/lang/Class;"⟩ ⟨"java/lang/Object", "getClass", "()Ljava/lang/Class;"⟩, Cond.instanceMethod ⟨"java/lang/Object", "getClass", "()Ljava/lang/Class;"⟩, Cond.native ⟨"java/lang/Object", "getClass", "()Ljava/lang/Class;"⟩, Cond.methodLink RJ7 300 yJ7_copyOf_6403c, Cond.static yJ7_copyOf_6403c, Cond.code yJ7_copyOf_6403c cJ7_copyOf_6403c 4 (some (.array (.object "java/lang/Object"))), Cond.classLink RJ7 110 "[Ljava/lang/Object;", Cond.classLink RJ7 2 "java/lang/Object", Cond.methodLink RJ7 304 Lib.Math.min.name, Cond.static Lib.Math.min.name]
def wsL_law0_r13 : List Cond := [Cond.code Lib.Math.min.name Lib.Math.min.code 2 (some .int), Cond.methodLink RJ7 150 arraycopyName, Cond.native arraycopyName, Cond.static arraycopyName, Cond.initialized "java/lang/System", Cond.methodLink RL 110 yX3_buy, Cond.instanceMethod yX3_buy, Cond.selects RX3 yX3_buy yX3_buy, Cond.code yX3_buy cX3_buy 5 (some .int), Cond.methodLink RX3 88 yX3_lays, Cond.instanceMethod yX3_lays, Cond.selects RX3 yX3_lays yX3_lays, Cond.code yX3_lays cX3_lays 5 (some .int), Cond.methodLink RL 111 yL_upgrade, Cond.static yL_upgrade, Cond.codeWith yL_upgrade cL_upgrade 5 (some .int) [(0, 10, 13, 13), (0, 10, 17, 15), (0, 10, 21, 20)], Cond.methodLink RL 37 yX2_upgrade, Cond.instanceMethod yX2_upgrade, Cond.selects RX2 yX2_upgrade yX2_upgrade, Cond.code yX2_upgrade cX2_upgrade 4 (some .int), Cond.fieldLink RX2 112 "LicenceKeeper$Right" "count" "I", Cond.fieldLink RX2 115 "LicenceKeeper$Right" "measure" "I", Cond.methodLink RX2 102 yX2_rightAt, Cond.instanceMethod yX2_rightAt]
def wsL_law0_r14 : List Cond := [Cond.selects RX2 yX2_rightAt yX2_rightAt, Cond.code yX2_rightAt cX2_rightAt 2 (some (.object "LicenceKeeper$Right")), Cond.methodLink RX2 106 yX2_requireCount, Cond.static yX2_requireCount, Cond.code yX2_requireCount cX2_requireCount 2 none, Cond.methodLink RL 113 yX3_upgrade, Cond.instanceMethod yX3_upgrade, Cond.selects RX3 yX3_upgrade yX3_upgrade, Cond.code yX3_upgrade cX3_upgrade 3 (some .int), Cond.methodLink RX3 92 yX3_isRight, Cond.instanceMethod yX3_isRight, Cond.selects RX3 yX3_isRight yX3_isRight, Cond.code yX3_isRight cX3_isRight 2 (some .boolean), Cond.methodLink RL 114 yL_lend, Cond.static yL_lend, Cond.codeWith yL_lend cL_lend 5 (some .int) [(0, 10, 13, 13), (0, 10, 17, 15), (0, 10, 21, 20)], Cond.methodLink RL 40 yX2_lend, Cond.instanceMethod yX2_lend, Cond.selects RX2 yX2_lend yX2_lend, Cond.code yX2_lend cX2_lend 4 (some .int), Cond.fieldLink RX2 118 "LicenceKeeper$Right" "lent" "I", Cond.methodLink RL 116 yX3_lend, Cond.instanceMethod yX3_lend, Cond.selects RX3 yX3_lend yX3_lend]
def wsL_law0_r15 : List Cond := [Cond.code yX3_lend cX3_lend 3 (some .int), Cond.methodLink RL 117 yL_pass, Cond.static yL_pass, Cond.codeWith yL_pass cL_pass 4 (some .int) [(0, 9, 12, 15)], Cond.methodLink RL 43 yX2_pass, Cond.instanceMethod yX2_pass, Cond.selects RX2 yX2_pass yX2_pass, Cond.code yX2_pass cX2_pass 2 (some .int), Cond.methodLink RL 119 yX3_pass, Cond.instanceMethod yX3_pass, Cond.selects RX3 yX3_pass yX3_pass, Cond.code yX3_pass cX3_pass 2 (some .int), Cond.methodLink RL 120 yX2_today, Cond.instanceMethod yX2_today, Cond.selects RX2 yX2_today yX2_today, Cond.code yX2_today cX2_today 1 (some .int), Cond.methodLink RL 123 yX3_today, Cond.instanceMethod yX3_today, Cond.selects RX3 yX3_today yX3_today, Cond.code yX3_today cX3_today 1 (some .int), Cond.methodLink RL 124 yX2_rights, Cond.instanceMethod yX2_rights, Cond.selects RX2 yX2_rights yX2_rights, Cond.code yX2_rights cX2_rights 1 (some .int)]
def wsL_law0_r16 : List Cond := [Cond.methodLink RL 127 yX3_rights, Cond.instanceMethod yX3_rights, Cond.selects RX3 yX3_rights yX3_rights, Cond.code yX3_rights cX3_rights 1 (some .int), Cond.methodLink RL 128 yL_countOf, Cond.static yL_countOf, Cond.codeWith yL_countOf cL_countOf 4 (some .int) [(0, 9, 12, 13)], Cond.methodLink RL 46 yX2_countOf, Cond.instanceMethod yX2_countOf, Cond.selects RX2 yX2_countOf yX2_countOf, Cond.code yX2_countOf cX2_countOf 2 (some .int), Cond.methodLink RL 130 yX3_countOf, Cond.instanceMethod yX3_countOf, Cond.selects RX3 yX3_countOf yX3_countOf, Cond.code yX3_countOf cX3_countOf 2 (some .int), Cond.methodLink RL 131 yL_versionOf, Cond.static yL_versionOf, Cond.codeWith yL_versionOf cL_versionOf 4 (some .int) [(0, 9, 12, 13)], Cond.methodLink RL 49 yX2_versionOf, Cond.instanceMethod yX2_versionOf, Cond.selects RX2 yX2_versionOf yX2_versionOf, Cond.code yX2_versionOf cX2_versionOf 2 (some .int), Cond.methodLink RL 133 yX3_versionOf, Cond.instanceMethod yX3_versionOf]
def wsL_law0_r17 : List Cond := [Cond.selects RX3 yX3_versionOf yX3_versionOf, Cond.code yX3_versionOf cX3_versionOf 2 (some .int), Cond.methodLink RL 134 yL_latest, Cond.static yL_latest, Cond.codeWith yL_latest cL_latest 4 (some .int) [(0, 9, 12, 13)], Cond.methodLink RL 52 yX2_latest, Cond.instanceMethod yX2_latest, Cond.selects RX2 yX2_latest yX2_latest, Cond.code yX2_latest cX2_latest 2 (some .int), Cond.methodLink RL 136 yX3_latest, Cond.instanceMethod yX3_latest, Cond.selects RX3 yX3_latest yX3_latest, Cond.code yX3_latest cX3_latest 2 (some .int), Cond.methodLink RL 137 yL_hostOf, Cond.static yL_hostOf, Cond.codeWith yL_hostOf cL_hostOf 4 (some .int) [(0, 9, 12, 13)], Cond.methodLink RL 55 yX2_hostOf, Cond.instanceMethod yX2_hostOf, Cond.selects RX2 yX2_hostOf yX2_hostOf, Cond.code yX2_hostOf cX2_hostOf 2 (some .int), Cond.methodLink RL 139 yX3_hostOf, Cond.instanceMethod yX3_hostOf, Cond.selects RX3 yX3_hostOf yX3_hostOf, Cond.code yX3_hostOf cX3_hostOf 2 (some .int)]
def wsL_law0_r18 : List Cond := [Cond.methodLink RL 140 yL_weight, Cond.static yL_weight, Cond.codeWith yL_weight cL_weight 5 (some .int) [(0, 10, 13, 13)], Cond.methodLink RL 58 yX2_weight, Cond.instanceMethod yX2_weight, Cond.selects RX2 yX2_weight yX2_weight, Cond.code yX2_weight cX2_weight 3 (some .int), Cond.methodLink RX2 123 yX2_weightOn, Cond.instanceMethod yX2_weightOn, Cond.selects RX2 yX2_weightOn yX2_weightOn, Cond.code yX2_weightOn cX2_weightOn 3 (some .int), Cond.methodLink RL 142 yX3_weight, Cond.instanceMethod yX3_weight, Cond.selects RX3 yX3_weight yX3_weight, Cond.code yX3_weight cX3_weight 3 (some .int), Cond.methodLink RX3 95 yX3_weighs, Cond.instanceMethod yX3_weighs, Cond.selects RX3 yX3_weighs yX3_weighs, Cond.code yX3_weighs cX3_weighs 3 (some .int), Cond.methodLink RL 143 yL_covers, Cond.static yL_covers, Cond.codeWith yL_covers cL_covers 5 (some .int) [(0, 10, 13, 13)], Cond.methodLink RL 61 yX2_covers, Cond.instanceMethod yX2_covers]
def wsL_law0_r19 : List Cond := [Cond.selects RX2 yX2_covers yX2_covers, Cond.code yX2_covers cX2_covers 4 (some .int), Cond.methodLink RX2 127 yX2_coverOn, Cond.instanceMethod yX2_coverOn, Cond.selects RX2 yX2_coverOn yX2_coverOn, Cond.code yX2_coverOn cX2_coverOn 8 (some .int), Cond.methodLink RL 145 yX3_covers, Cond.instanceMethod yX3_covers, Cond.selects RX3 yX3_covers yX3_covers, Cond.code yX3_covers cX3_covers 3 (some .int), Cond.methodLink RX3 98 yX3_covered, Cond.instanceMethod yX3_covered, Cond.selects RX3 yX3_covered yX3_covered, Cond.code yX3_covered cX3_covered 7 (some .int), Cond.methodLink RL 146 yL_gap, Cond.static yL_gap, Cond.codeWith yL_gap cL_gap 4 (some .int) [(0, 9, 12, 13)], Cond.methodLink RL 64 yX2_gap, Cond.instanceMethod yX2_gap, Cond.selects RX2 yX2_gap yX2_gap, Cond.code yX2_gap cX2_gap 2 (some .int), Cond.methodLink RX2 131 yX2_leastUncovered, Cond.instanceMethod yX2_leastUncovered, Cond.selects RX2 yX2_leastUncovered yX2_leastUncovered]
def wsL_law0_r20 : List Cond := [Cond.code yX2_leastUncovered cX2_leastUncovered 3 (some .int), Cond.methodLink RX2 161 yX2_layAllBut, Cond.instanceMethod yX2_layAllBut, Cond.selects RX2 yX2_layAllBut yX2_layAllBut, Cond.code yX2_layAllBut cX2_layAllBut 6 none, Cond.methodLink RX2 142 yX2_startLayings, Cond.instanceMethod yX2_startLayings, Cond.selects RX2 yX2_startLayings yX2_startLayings, Cond.code yX2_startLayings cX2_startLayings 3 none, Cond.methodLink RX2 214 yX0_clearAll, Cond.instanceMethod yX0_clearAll, Cond.selects RX0 yX0_clearAll yX0_clearAll, Cond.code yX0_clearAll cX0_clearAll 1 none, Cond.constant RX0 34 (1000000), Cond.methodLink RX0 35 yJ7_fill_53178, Cond.methodLink RX2 217 yX0_weigh, Cond.instanceMethod yX0_weigh, Cond.selects RX0 yX0_weigh yX0_weigh, Cond.code yX0_weigh cX0_weigh 6 none, Cond.methodLink RX2 145 yX2_takeUp, Cond.instanceMethod yX2_takeUp, Cond.selects RX2 yX2_takeUp yX2_takeUp, Cond.code yX2_takeUp cX2_takeUp 4 none, Cond.fieldLink RX2 221 "LicenceKeeper$Layings" "machineTakes" "[I"]
def wsL_law0_r21 : List Cond := [Cond.fieldLink RX2 228 "LicenceKeeper$Layings" "machineCovers" "[I", Cond.methodLink RX2 224 yX2_takenOn, Cond.instanceMethod yX2_takenOn, Cond.selects RX2 yX2_takenOn yX2_takenOn, Cond.code yX2_takenOn cX2_takenOn 3 (some .int), Cond.methodLink RX2 206 Lib.Math.max.name, Cond.methodLink RX2 165 yX0_layOpen, Cond.instanceMethod yX0_layOpen, Cond.selects RX0 yX0_layOpen yX0_layOpen, Cond.code yX0_layOpen cX0_layOpen 6 none, Cond.methodLink RX0 41 Lib.Math.min.name, Cond.methodLink RX2 211 yX0_closeWithin, Cond.instanceMethod yX0_closeWithin, Cond.selects RX0 yX0_closeWithin yX0_closeWithin, Cond.code yX0_closeWithin cX0_closeWithin 3 none, Cond.methodLink RX2 152 yX0_leastUncoveredWithin, Cond.instanceMethod yX0_leastUncoveredWithin, Cond.selects RX0 yX0_leastUncoveredWithin yX0_leastUncoveredWithin, Cond.code yX0_leastUncoveredWithin cX0_leastUncoveredWithin 5 (some .int), Cond.methodLink RX0 60 yX0_isLess, Cond.instanceMethod yX0_isLess, Cond.selects RX0 yX0_isLess yX0_isLess, Cond.code yX0_isLess cX0_isLess 4 (some .boolean), Cond.methodLink RX0 64 yX0_weightOfSet]
def wsL_law0_r22 : List Cond := [Cond.instanceMethod yX0_weightOfSet, Cond.selects RX0 yX0_weightOfSet yX0_weightOfSet, Cond.code yX0_weightOfSet cX0_weightOfSet 2 (some .int), Cond.methodLink RX2 135 yX0_weightOfSet, Cond.methodLink RL 148 yX3_gap, Cond.instanceMethod yX3_gap, Cond.selects RX3 yX3_gap yX3_gap, Cond.code yX3_gap cX3_gap 2 (some .int), Cond.methodLink RX3 109 yX3_least, Cond.instanceMethod yX3_least, Cond.selects RX3 yX3_least yX3_least, Cond.code yX3_least cX3_least 8 (some .int), Cond.constant RX3 105 (65536), Cond.fieldLink RX3 106 "LicenceKeeperModel" "bare" "I", Cond.methodLink RX3 101 yX3_spreads, Cond.instanceMethod yX3_spreads, Cond.selects RX3 yX3_spreads yX3_spreads, Cond.code yX3_spreads cX3_spreads 5 none, Cond.methodLink RL 149 yL_uncovered, Cond.static yL_uncovered, Cond.codeWith yL_uncovered cL_uncovered 4 (some .int) [(0, 9, 12, 13)], Cond.methodLink RL 67 yX2_uncovered, Cond.instanceMethod yX2_uncovered, Cond.selects RX2 yX2_uncovered yX2_uncovered]
def wsL_law0_r23 : List Cond := [Cond.code yX2_uncovered cX2_uncovered 2 (some .int), Cond.methodLink RL 151 yX3_uncovered, Cond.instanceMethod yX3_uncovered, Cond.selects RX3 yX3_uncovered yX3_uncovered, Cond.code yX3_uncovered cX3_uncovered 3 (some .int), Cond.methodLink RL 152 yL_gapByAll, Cond.static yL_gapByAll, Cond.codeWith yL_gapByAll cL_gapByAll 4 (some .int) [(0, 9, 12, 13), (0, 9, 15, 20)], Cond.methodLink RL 70 yX2_gapByAll, Cond.instanceMethod yX2_gapByAll, Cond.selects RX2 yX2_gapByAll yX2_gapByAll, Cond.code yX2_gapByAll cX2_gapByAll 4 (some .int), Cond.methodLink RX2 139 yX2_requireFewRights, Cond.instanceMethod yX2_requireFewRights, Cond.selects RX2 yX2_requireFewRights yX2_requireFewRights, Cond.code yX2_requireFewRights cX2_requireFewRights 5 none, Cond.methodLink RX2 149 yX0_layOnAllSets, Cond.instanceMethod yX0_layOnAllSets, Cond.selects RX0 yX0_layOnAllSets yX0_layOnAllSets, Cond.code yX0_layOnAllSets cX0_layOnAllSets 3 none, Cond.methodLink RX0 54 arraycopyName, Cond.methodLink RX0 47 yX0_coverOfSet, Cond.instanceMethod yX0_coverOfSet, Cond.selects RX0 yX0_coverOfSet yX0_coverOfSet]
def wsL_law0_r24 : List Cond := [Cond.code yX0_coverOfSet cX0_coverOfSet 6 (some .int), Cond.methodLink RX0 50 yX0_addToAll, Cond.instanceMethod yX0_addToAll, Cond.selects RX0 yX0_addToAll yX0_addToAll, Cond.code yX0_addToAll cX0_addToAll 3 none, Cond.methodLink RL 154 yX3_gapByAll, Cond.instanceMethod yX3_gapByAll, Cond.selects RX3 yX3_gapByAll yX3_gapByAll, Cond.code yX3_gapByAll cX3_gapByAll 4 (some .int), Cond.methodLink RL 155 yL_gapIf, Cond.static yL_gapIf, Cond.codeWith yL_gapIf cL_gapIf 6 (some .int) [(0, 12, 15, 13), (0, 12, 19, 15), (0, 12, 23, 20)], Cond.methodLink RL 73 yX2_gapIf, Cond.instanceMethod yX2_gapIf, Cond.selects RX2 yX2_gapIf yX2_gapIf, Cond.code yX2_gapIf cX2_gapIf 4 (some .int), Cond.methodLink RX2 155 arraycopyName, Cond.methodLink RL 157 yX3_gapIf, Cond.instanceMethod yX3_gapIf, Cond.selects RX3 yX3_gapIf yX3_gapIf, Cond.code yX3_gapIf cX3_gapIf 6 (some .int), Cond.methodLink RL 158 yL_spare, Cond.static yL_spare, Cond.codeWith yL_spare cL_spare 4 (some .int) [(0, 9, 12, 13)]]
def wsL_law0_r25 : List Cond := [Cond.methodLink RL 76 yX2_spare, Cond.instanceMethod yX2_spare, Cond.selects RX2 yX2_spare yX2_spare, Cond.code yX2_spare cX2_spare 4 (some .int), Cond.methodLink RX2 168 yX0_leastTakenFor, Cond.instanceMethod yX0_leastTakenFor, Cond.selects RX0 yX0_leastTakenFor yX0_leastTakenFor, Cond.code yX0_leastTakenFor cX0_leastTakenFor 4 (some .int), Cond.methodLink RL 160 yX3_spare, Cond.instanceMethod yX3_spare, Cond.selects RX3 yX3_spare yX3_spare, Cond.code yX3_spare cX3_spare 7 (some .int)]
def wsL_law0 : List Cond := (wsL_law0_r1 ++ (wsL_law0_r2 ++ (wsL_law0_r3 ++ (wsL_law0_r4 ++ (wsL_law0_r5 ++ (wsL_law0_r6 ++ (wsL_law0_r7 ++ (wsL_law0_r8 ++ (wsL_law0_r9 ++ (wsL_law0_r10 ++ (wsL_law0_r11 ++ (wsL_law0_r12 ++ (wsL_law0_r13 ++ (wsL_law0_r14 ++ (wsL_law0_r15 ++ (wsL_law0_r16 ++ (wsL_law0_r17 ++ (wsL_law0_r18 ++ (wsL_law0_r19 ++ (wsL_law0_r20 ++ (wsL_law0_r21 ++ (wsL_law0_r22 ++ (wsL_law0_r23 ++ (wsL_law0_r24 ++ wsL_law0_r25)))))))))))))))))))))))) ++ wsX20 ++ wsX30 ++ wsJx4a65c0 ++ wsX00 ++ wsX10 ++ ([] : List Cond)
def wsL_law : List Cond := wsL_law0 ++ (vx_atS RX2 175 "java/lang/IndexOutOfBoundsException" ["java/lang/RuntimeException", "java/lang/Exception"]).filter goodWord ++ (vx_atS RX2 182 "java/lang/IllegalArgumentException" ["java/lang/RuntimeException", "java/lang/Exception"]).filter goodWord ++ (vx_atS RX2 73 "java/lang/IllegalStateException" ["java/lang/RuntimeException", "java/lang/Exception"]).filter goodWord
abbrev vwCl : List vw_C := [(RJx4a65c, TJx4a65c, 3), (RX0, TX0, 7), (RX1, TX1, 6), (RX2, TX2, 9), (RX3, TX3, 19)]
end
section
theorem dX3_init_0 : decode cX3_init 0 = .ok (.aload_n 0, 1) := by decide +kernel
theorem dX3_init_1 : decode cX3_init 1 = .ok (.invokespecial 1, 3) := by decide +kernel
theorem dX3_init_4 : decode cX3_init 4 = .ok (.aload_n 0, 1) := by decide +kernel
theorem dX3_init_5 : decode cX3_init 5 = .ok (.bipush 8, 2) := by decide +kernel
theorem dX3_init_7 : decode cX3_init 7 = .ok (.newarray .int, 2) := by decide +kernel
theorem dX3_init_9 : decode cX3_init 9 = .ok (.putfield 7, 3) := by decide +kernel
theorem dX3_init_12 : decode cX3_init 12 = .ok (.aload_n 0, 1) := by decide +kernel
theorem dX3_init_13 : decode cX3_init 13 = .ok (.bipush 8, 2) := by decide +kernel
theorem dX3_init_15 : decode cX3_init 15 = .ok (.newarray .int, 2) := by decide +kernel
theorem dX3_init_17 : decode cX3_init 17 = .ok (.putfield 13, 3) := by decide +kernel
theorem dX3_init_20 : decode cX3_init 20 = .ok (.aload_n 0, 1) := by decide +kernel
theorem dX3_init_21 : decode cX3_init 21 = .ok (.bipush 32, 2) := by decide +kernel
theorem dX3_init_23 : decode cX3_init 23 = .ok (.newarray .int, 2) := by decide +kernel
theorem dX3_init_25 : decode cX3_init 25 = .ok (.putfield 16, 3) := by decide +kernel
theorem dX3_init_28 : decode cX3_init 28 = .ok (.aload_n 0, 1) := by decide +kernel
theorem dX3_init_29 : decode cX3_init 29 = .ok (.iconst 4, 1) := by decide +kernel
theorem dX3_init_30 : decode cX3_init 30 = .ok (.newarray .int, 2) := by decide +kernel
theorem dX3_init_32 : decode cX3_init 32 = .ok (.putfield 19, 3) := by decide +kernel
theorem dX3_init_35 : decode cX3_init 35 = .ok (.aload_n 0, 1) := by decide +kernel
theorem dX3_init_36 : decode cX3_init 36 = .ok (.iconst 4, 1) := by decide +kernel
theorem dX3_init_37 : decode cX3_init 37 = .ok (.newarray .int, 2) := by decide +kernel
theorem dX3_init_39 : decode cX3_init 39 = .ok (.putfield 22, 3) := by decide +kernel
theorem dX3_init_42 : decode cX3_init 42 = .ok (.aload_n 0, 1) := by decide +kernel
theorem dX3_init_43 : decode cX3_init 43 = .ok (.bipush 12, 2) := by decide +kernel
theorem dX3_init_45 : decode cX3_init 45 = .ok (.newarray .int, 2) := by decide +kernel
theorem dX3_init_47 : decode cX3_init 47 = .ok (.putfield 25, 3) := by decide +kernel
theorem dX3_init_50 : decode cX3_init 50 = .ok (.aload_n 0, 1) := by decide +kernel
theorem dX3_init_51 : decode cX3_init 51 = .ok (.bipush 12, 2) := by decide +kernel
theorem dX3_init_53 : decode cX3_init 53 = .ok (.newarray .int, 2) := by decide +kernel
theorem dX3_init_55 : decode cX3_init 55 = .ok (.putfield 28, 3) := by decide +kernel
theorem dX3_init_58 : decode cX3_init 58 = .ok (.aload_n 0, 1) := by decide +kernel
theorem dX3_init_59 : decode cX3_init 59 = .ok (.bipush 12, 2) := by decide +kernel
theorem dX3_init_61 : decode cX3_init 61 = .ok (.newarray .int, 2) := by decide +kernel
theorem dX3_init_63 : decode cX3_init 63 = .ok (.putfield 31, 3) := by decide +kernel
theorem dX3_init_66 : decode cX3_init 66 = .ok (.aload_n 0, 1) := by decide +kernel
theorem dX3_init_67 : decode cX3_init 67 = .ok (.bipush 12, 2) := by decide +kernel
theorem dX3_init_69 : decode cX3_init 69 = .ok (.newarray .int, 2) := by decide +kernel
theorem dX3_init_71 : decode cX3_init 71 = .ok (.putfield 34, 3) := by decide +kernel
theorem dX3_init_74 : decode cX3_init 74 = .ok (.aload_n 0, 1) := by decide +kernel
theorem dX3_init_75 : decode cX3_init 75 = .ok (.bipush 12, 2) := by decide +kernel
theorem dX3_init_77 : decode cX3_init 77 = .ok (.newarray .int, 2) := by decide +kernel
theorem dX3_init_79 : decode cX3_init 79 = .ok (.putfield 37, 3) := by decide +kernel
theorem dX3_init_82 : decode cX3_init 82 = .ok (.aload_n 0, 1) := by decide +kernel
theorem dX3_init_83 : decode cX3_init 83 = .ok (.bipush 12, 2) := by decide +kernel
theorem dX3_init_85 : decode cX3_init 85 = .ok (.newarray .int, 2) := by decide +kernel
theorem dX3_init_87 : decode cX3_init 87 = .ok (.putfield 40, 3) := by decide +kernel
theorem dX3_init_90 : decode cX3_init 90 = .ok (.aload_n 0, 1) := by decide +kernel
theorem dX3_init_91 : decode cX3_init 91 = .ok (.sipush 256, 3) := by decide +kernel
theorem dX3_init_94 : decode cX3_init 94 = .ok (.newarray .boolean, 2) := by decide +kernel
theorem dX3_init_96 : decode cX3_init 96 = .ok (.putfield 43, 3) := by decide +kernel
theorem dX3_init_99 : decode cX3_init 99 = .ok (.aload_n 0, 1) := by decide +kernel
theorem dX3_init_100 : decode cX3_init 100 = .ok (.sipush 256, 3) := by decide +kernel
theorem dX3_init_103 : decode cX3_init 103 = .ok (.newarray .boolean, 2) := by decide +kernel
theorem dX3_init_105 : decode cX3_init 105 = .ok (.putfield 47, 3) := by decide +kernel
theorem dX3_init_108 : decode cX3_init 108 = .ok (.aload_n 0, 1) := by decide +kernel
theorem dX3_init_109 : decode cX3_init 109 = .ok (.sipush 256, 3) := by decide +kernel
theorem dX3_init_112 : decode cX3_init 112 = .ok (.newarray .int, 2) := by decide +kernel
theorem dX3_init_114 : decode cX3_init 114 = .ok (.putfield 50, 3) := by decide +kernel
theorem dX3_init_117 : decode cX3_init 117 = .ok (.aload_n 0, 1) := by decide +kernel
theorem dX3_init_118 : decode cX3_init 118 = .ok (.sipush 256, 3) := by decide +kernel
theorem dX3_init_121 : decode cX3_init 121 = .ok (.newarray .int, 2) := by decide +kernel
theorem dX3_init_123 : decode cX3_init 123 = .ok (.putfield 53, 3) := by decide +kernel
theorem dX3_init_126 : decode cX3_init 126 = .ok (.iconst 0, 1) := by decide +kernel
theorem dX3_init_127 : decode cX3_init 127 = .ok (.istore_n 1, 1) := by decide +kernel
theorem dX3_init_128 : decode cX3_init 128 = .ok (.iload_n 1, 1) := by decide +kernel
theorem dX3_init_129 : decode cX3_init 129 = .ok (.bipush 8, 2) := by decide +kernel
theorem dX3_init_131 : decode cX3_init 131 = .ok (.if_icmp .ge 23, 3) := by decide +kernel
theorem dX3_init_134 : decode cX3_init 134 = .ok (.aload_n 0, 1) := by decide +kernel
theorem dX3_init_135 : decode cX3_init 135 = .ok (.getfield 7, 3) := by decide +kernel
theorem dX3_init_138 : decode cX3_init 138 = .ok (.iload_n 1, 1) := by decide +kernel
theorem dX3_init_139 : decode cX3_init 139 = .ok (.iconst 1, 1) := by decide +kernel
theorem dX3_init_140 : decode cX3_init 140 = .ok (.iastore, 1) := by decide +kernel
theorem dX3_init_141 : decode cX3_init 141 = .ok (.aload_n 0, 1) := by decide +kernel
theorem dX3_init_142 : decode cX3_init 142 = .ok (.getfield 13, 3) := by decide +kernel
theorem dX3_init_145 : decode cX3_init 145 = .ok (.iload_n 1, 1) := by decide +kernel
theorem dX3_init_146 : decode cX3_init 146 = .ok (.iconst (-1), 1) := by decide +kernel
theorem dX3_init_147 : decode cX3_init 147 = .ok (.iastore, 1) := by decide +kernel
theorem dX3_init_148 : decode cX3_init 148 = .ok (.iinc 1 1, 3) := by decide +kernel
theorem dX3_init_151 : decode cX3_init 151 = .ok (.goto (-23), 3) := by decide +kernel
theorem dX3_init_154 : decode cX3_init 154 = .ok (.iconst 0, 1) := by decide +kernel
theorem dX3_init_155 : decode cX3_init 155 = .ok (.istore_n 1, 1) := by decide +kernel
theorem dX3_init_156 : decode cX3_init 156 = .ok (.iload_n 1, 1) := by decide +kernel
theorem dX3_init_157 : decode cX3_init 157 = .ok (.iconst 4, 1) := by decide +kernel
theorem dX3_init_158 : decode cX3_init 158 = .ok (.if_icmp .ge 23, 3) := by decide +kernel
theorem dX3_init_161 : decode cX3_init 161 = .ok (.aload_n 0, 1) := by decide +kernel
theorem dX3_init_162 : decode cX3_init 162 = .ok (.getfield 19, 3) := by decide +kernel
theorem dX3_init_165 : decode cX3_init 165 = .ok (.iload_n 1, 1) := by decide +kernel
theorem dX3_init_166 : decode cX3_init 166 = .ok (.iconst 1, 1) := by decide +kernel
theorem dX3_init_167 : decode cX3_init 167 = .ok (.iastore, 1) := by decide +kernel
theorem dX3_init_168 : decode cX3_init 168 = .ok (.aload_n 0, 1) := by decide +kernel
theorem dX3_init_169 : decode cX3_init 169 = .ok (.getfield 22, 3) := by decide +kernel
theorem dX3_init_172 : decode cX3_init 172 = .ok (.iload_n 1, 1) := by decide +kernel
theorem dX3_init_173 : decode cX3_init 173 = .ok (.iconst 1, 1) := by decide +kernel
theorem dX3_init_174 : decode cX3_init 174 = .ok (.iastore, 1) := by decide +kernel
theorem dX3_init_175 : decode cX3_init 175 = .ok (.iinc 1 1, 3) := by decide +kernel
theorem dX3_init_178 : decode cX3_init 178 = .ok (.goto (-22), 3) := by decide +kernel
theorem dX3_init_181 : decode cX3_init 181 = .ok (.return_, 1) := by decide +kernel
theorem dX3_thrown_0 : decode cX3_thrown 0 = .ok (.aload_n 0, 1) := by decide +kernel
theorem dX3_thrown_1 : decode cX3_thrown 1 = .ok (.getfield 56, 3) := by decide +kernel
theorem dX3_thrown_4 : decode cX3_thrown 4 = .ok (.ireturn, 1) := by decide +kernel
theorem dX3_fails_0 : decode cX3_fails 0 = .ok (.aload_n 0, 1) := by decide +kernel
theorem dX3_fails_1 : decode cX3_fails 1 = .ok (.iload_n 1, 1) := by decide +kernel
theorem dX3_fails_2 : decode cX3_fails 2 = .ok (.putfield 56, 3) := by decide +kernel
theorem dX3_fails_5 : decode cX3_fails 5 = .ok (.iconst 0, 1) := by decide +kernel
theorem dX3_fails_6 : decode cX3_fails 6 = .ok (.ireturn, 1) := by decide +kernel
theorem dX3_in_0 : decode cX3_in 0 = .ok (.iload_n 0, 1) := by decide +kernel
theorem dX3_in_1 : decode cX3_in 1 = .ok (.iload_n 1, 1) := by decide +kernel
theorem dX3_in_2 : decode cX3_in 2 = .ok (.if_icmp .lt 12, 3) := by decide +kernel
theorem dX3_in_5 : decode cX3_in 5 = .ok (.iload_n 0, 1) := by decide +kernel
theorem dX3_in_6 : decode cX3_in 6 = .ok (.iload_n 2, 1) := by decide +kernel
theorem dX3_in_7 : decode cX3_in 7 = .ok (.if_icmp .gt 7, 3) := by decide +kernel
theorem dX3_in_10 : decode cX3_in 10 = .ok (.iconst 1, 1) := by decide +kernel
theorem dX3_in_11 : decode cX3_in 11 = .ok (.goto 4, 3) := by decide +kernel
theorem dX3_in_14 : decode cX3_in 14 = .ok (.iconst 0, 1) := by decide +kernel
theorem dX3_in_15 : decode cX3_in 15 = .ok (.ireturn, 1) := by decide +kernel
set_option maxRecDepth 20000 in
theorem ggX3_isMachine_X3_in : GoodIn wsX3_isMachine wsX3_in := goodIn_r _ [4] (by decide +kernel) (by decide +kernel)
set_option maxRecDepth 20000 in
theorem gX3_isMachine_X3_in : GoodIn wsX3_isMachine (va_wsS RX3 60 yX3_in wsX3_in) := goodIn_app (goodIn_of _ (by decide +kernel)) ggX3_isMachine_X3_in
theorem dX3_isMachine_0 : decode cX3_isMachine 0 = .ok (.iload_n 0, 1) := by decide +kernel
theorem dX3_isMachine_1 : decode cX3_isMachine 1 = .ok (.iconst 0, 1) := by decide +kernel
theorem dX3_isMachine_2 : decode cX3_isMachine 2 = .ok (.bipush 7, 2) := by decide +kernel
theorem dX3_isMachine_4 : decode cX3_isMachine 4 = .ok (.invokestatic 60, 3) := by decide +kernel
theorem dX3_isMachine_7 : decode cX3_isMachine 7 = .ok (.ireturn, 1) := by decide +kernel
set_option maxRecDepth 20000 in
theorem ggX3_isProduct_X3_in : GoodIn wsX3_isProduct wsX3_in := goodIn_r _ [4] (by decide +kernel) (by decide +kernel)
set_option maxRecDepth 20000 in
theorem gX3_isProduct_X3_in : GoodIn wsX3_isProduct (va_wsS RX3 60 yX3_in wsX3_in) := goodIn_app (goodIn_of _ (by decide +kernel)) ggX3_isProduct_X3_in
theorem dX3_isProduct_0 : decode cX3_isProduct 0 = .ok (.iload_n 0, 1) := by decide +kernel
theorem dX3_isProduct_1 : decode cX3_isProduct 1 = .ok (.iconst 0, 1) := by decide +kernel
theorem dX3_isProduct_2 : decode cX3_isProduct 2 = .ok (.iconst 3, 1) := by decide +kernel
theorem dX3_isProduct_3 : decode cX3_isProduct 3 = .ok (.invokestatic 60, 3) := by decide +kernel
theorem dX3_isProduct_6 : decode cX3_isProduct 6 = .ok (.ireturn, 1) := by decide +kernel
set_option maxRecDepth 20000 in
theorem ggX3_isRight_X3_in : GoodIn wsX3_isRight wsX3_in := goodIn_r _ [5] (by decide +kernel) (by decide +kernel)
set_option maxRecDepth 20000 in
theorem gX3_isRight_X3_in : GoodIn wsX3_isRight (va_wsS RX3 60 yX3_in wsX3_in) := goodIn_app (goodIn_of _ (by decide +kernel)) ggX3_isRight_X3_in
theorem dX3_isRight_0 : decode cX3_isRight 0 = .ok (.iload_n 1, 1) := by decide +kernel
theorem dX3_isRight_1 : decode cX3_isRight 1 = .ok (.iconst 0, 1) := by decide +kernel
theorem dX3_isRight_2 : decode cX3_isRight 2 = .ok (.aload_n 0, 1) := by decide +kernel
theorem dX3_isRight_3 : decode cX3_isRight 3 = .ok (.getfield 64, 3) := by decide +kernel
theorem dX3_isRight_6 : decode cX3_isRight 6 = .ok (.iconst 1, 1) := by decide +kernel
theorem dX3_isRight_7 : decode cX3_isRight 7 = .ok (.isub, 1) := by decide +kernel
theorem dX3_isRight_8 : decode cX3_isRight 8 = .ok (.invokestatic 60, 3) := by decide +kernel
theorem dX3_isRight_11 : decode cX3_isRight 11 = .ok (.ireturn, 1) := by decide +kernel
set_option maxRecDepth 20000 in
theorem ggX3_setCores_X3_isMachine : GoodIn wsX3_setCores wsX3_isMachine := goodIn_r _ [6, 7, 8, 5, 9] (by decide +kernel) (by decide +kernel)
set_option maxRecDepth 20000 in
theorem gX3_setCores_X3_isMachine : GoodIn wsX3_setCores (va_wsS RX3 67 yX3_isMachine wsX3_isMachine) := goodIn_app (goodIn_of _ (by decide +kernel)) ggX3_setCores_X3_isMachine
set_option maxRecDepth 20000 in
theorem ggX3_setCores_X3_fails : GoodIn wsX3_setCores wsX3_fails := goodIn_r _ [13, 1, 14, 15, 16, 17, 18, 19, 20, 21, 22, 23, 24, 25, 26, 27, 28, 29, 30, 31, 32] (by decide +kernel) (by decide +kernel)
set_option maxRecDepth 20000 in
theorem gX3_setCores_X3_fails : GoodIn wsX3_setCores (wsV RX3 71 RX3 yX3_fails wsX3_fails) := goodIn_app (goodIn_of _ (by decide +kernel)) ggX3_setCores_X3_fails
set_option maxRecDepth 20000 in
theorem ggX3_setCores_X3_in : GoodIn wsX3_setCores wsX3_in := goodIn_r _ [9] (by decide +kernel) (by decide +kernel)
set_option maxRecDepth 20000 in
theorem gX3_setCores_X3_in : GoodIn wsX3_setCores (va_wsS RX3 60 yX3_in wsX3_in) := goodIn_app (goodIn_of _ (by decide +kernel)) ggX3_setCores_X3_in
theorem dX3_setCores_0 : decode cX3_setCores 0 = .ok (.aload_n 0, 1) := by decide +kernel
theorem dX3_setCores_1 : decode cX3_setCores 1 = .ok (.iconst 0, 1) := by decide +kernel
theorem dX3_setCores_2 : decode cX3_setCores 2 = .ok (.putfield 56, 3) := by decide +kernel
theorem dX3_setCores_5 : decode cX3_setCores 5 = .ok (.iload_n 1, 1) := by decide +kernel
theorem dX3_setCores_6 : decode cX3_setCores 6 = .ok (.invokestatic 67, 3) := by decide +kernel
theorem dX3_setCores_9 : decode cX3_setCores 9 = .ok (.ifCond .ne 9, 3) := by decide +kernel
theorem dX3_setCores_12 : decode cX3_setCores 12 = .ok (.aload_n 0, 1) := by decide +kernel
theorem dX3_setCores_13 : decode cX3_setCores 13 = .ok (.iconst 1, 1) := by decide +kernel
theorem dX3_setCores_14 : decode cX3_setCores 14 = .ok (.invokevirtual 71, 3) := by decide +kernel
theorem dX3_setCores_17 : decode cX3_setCores 17 = .ok (.ireturn, 1) := by decide +kernel
theorem dX3_setCores_18 : decode cX3_setCores 18 = .ok (.iload_n 2, 1) := by decide +kernel
theorem dX3_setCores_19 : decode cX3_setCores 19 = .ok (.iconst 1, 1) := by decide +kernel
theorem dX3_setCores_20 : decode cX3_setCores 20 = .ok (.bipush 64, 2) := by decide +kernel
theorem dX3_setCores_22 : decode cX3_setCores 22 = .ok (.invokestatic 60, 3) := by decide +kernel
theorem dX3_setCores_25 : decode cX3_setCores 25 = .ok (.ifCond .ne 9, 3) := by decide +kernel
theorem dX3_setCores_28 : decode cX3_setCores 28 = .ok (.aload_n 0, 1) := by decide +kernel
theorem dX3_setCores_29 : decode cX3_setCores 29 = .ok (.iconst 2, 1) := by decide +kernel
theorem dX3_setCores_30 : decode cX3_setCores 30 = .ok (.invokevirtual 71, 3) := by decide +kernel
theorem dX3_setCores_33 : decode cX3_setCores 33 = .ok (.ireturn, 1) := by decide +kernel
theorem dX3_setCores_34 : decode cX3_setCores 34 = .ok (.aload_n 0, 1) := by decide +kernel
theorem dX3_setCores_35 : decode cX3_setCores 35 = .ok (.getfield 7, 3) := by decide +kernel
theorem dX3_setCores_38 : decode cX3_setCores 38 = .ok (.iload_n 1, 1) := by decide +kernel
theorem dX3_setCores_39 : decode cX3_setCores 39 = .ok (.iaload, 1) := by decide +kernel
theorem dX3_setCores_40 : decode cX3_setCores 40 = .ok (.istore_n 3, 1) := by decide +kernel
theorem dX3_setCores_41 : decode cX3_setCores 41 = .ok (.aload_n 0, 1) := by decide +kernel
theorem dX3_setCores_42 : decode cX3_setCores 42 = .ok (.getfield 7, 3) := by decide +kernel
theorem dX3_setCores_45 : decode cX3_setCores 45 = .ok (.iload_n 1, 1) := by decide +kernel
theorem dX3_setCores_46 : decode cX3_setCores 46 = .ok (.iload_n 2, 1) := by decide +kernel
theorem dX3_setCores_47 : decode cX3_setCores 47 = .ok (.iastore, 1) := by decide +kernel
theorem dX3_setCores_48 : decode cX3_setCores 48 = .ok (.iload_n 3, 1) := by decide +kernel
theorem dX3_setCores_49 : decode cX3_setCores 49 = .ok (.ireturn, 1) := by decide +kernel
theorem dX3_isHost_0 : decode cX3_isHost 0 = .ok (.iconst 0, 1) := by decide +kernel
theorem dX3_isHost_1 : decode cX3_isHost 1 = .ok (.istore_n 2, 1) := by decide +kernel
theorem dX3_isHost_2 : decode cX3_isHost 2 = .ok (.iconst 0, 1) := by decide +kernel
theorem dX3_isHost_3 : decode cX3_isHost 3 = .ok (.istore_n 3, 1) := by decide +kernel
theorem dX3_isHost_4 : decode cX3_isHost 4 = .ok (.iload_n 3, 1) := by decide +kernel
theorem dX3_isHost_5 : decode cX3_isHost 5 = .ok (.bipush 8, 2) := by decide +kernel
theorem dX3_isHost_7 : decode cX3_isHost 7 = .ok (.if_icmp .ge 29, 3) := by decide +kernel
theorem dX3_isHost_10 : decode cX3_isHost 10 = .ok (.iload_n 2, 1) := by decide +kernel
theorem dX3_isHost_11 : decode cX3_isHost 11 = .ok (.ifCond .ne 13, 3) := by decide +kernel
theorem dX3_isHost_14 : decode cX3_isHost 14 = .ok (.aload_n 0, 1) := by decide +kernel
theorem dX3_isHost_15 : decode cX3_isHost 15 = .ok (.getfield 13, 3) := by decide +kernel
theorem dX3_isHost_18 : decode cX3_isHost 18 = .ok (.iload_n 3, 1) := by decide +kernel
theorem dX3_isHost_19 : decode cX3_isHost 19 = .ok (.iaload, 1) := by decide +kernel
theorem dX3_isHost_20 : decode cX3_isHost 20 = .ok (.iload_n 1, 1) := by decide +kernel
theorem dX3_isHost_21 : decode cX3_isHost 21 = .ok (.if_icmp .ne 7, 3) := by decide +kernel
theorem dX3_isHost_24 : decode cX3_isHost 24 = .ok (.iconst 1, 1) := by decide +kernel
theorem dX3_isHost_25 : decode cX3_isHost 25 = .ok (.goto 4, 3) := by decide +kernel
theorem dX3_isHost_28 : decode cX3_isHost 28 = .ok (.iconst 0, 1) := by decide +kernel
theorem dX3_isHost_29 : decode cX3_isHost 29 = .ok (.istore_n 2, 1) := by decide +kernel
theorem dX3_isHost_30 : decode cX3_isHost 30 = .ok (.iinc 3 1, 3) := by decide +kernel
theorem dX3_isHost_33 : decode cX3_isHost 33 = .ok (.goto (-29), 3) := by decide +kernel
theorem dX3_isHost_36 : decode cX3_isHost 36 = .ok (.iload_n 2, 1) := by decide +kernel
theorem dX3_isHost_37 : decode cX3_isHost 37 = .ok (.ireturn, 1) := by decide +kernel
set_option maxRecDepth 20000 in
theorem ggX3_refuses_X3_isMachine : GoodIn wsX3_refuses wsX3_isMachine := goodIn_r _ [5, 6, 7, 4, 8] (by decide +kernel) (by decide +kernel)
set_option maxRecDepth 20000 in
theorem gX3_refuses_X3_isMachine : GoodIn wsX3_refuses (va_wsS RX3 67 yX3_isMachine wsX3_isMachine) := goodIn_app (goodIn_of _ (by decide +kernel)) ggX3_refuses_X3_isMachine
set_option maxRecDepth 20000 in
theorem ggX3_refuses_X3_isHost : GoodIn wsX3_refuses wsX3_isHost := goodIn_r _ [12, 1, 13, 14, 15, 16, 17, 18, 19, 20, 21, 22, 23, 24, 25, 26, 27, 28, 29, 30, 31] (by decide +kernel) (by decide +kernel)
set_option maxRecDepth 20000 in
theorem gX3_refuses_X3_isHost : GoodIn wsX3_refuses (wsV RX3 75 RX3 yX3_isHost wsX3_isHost) := goodIn_app (goodIn_of _ (by decide +kernel)) ggX3_refuses_X3_isHost
theorem dX3_refuses_0 : decode cX3_refuses 0 = .ok (.iload_n 1, 1) := by decide +kernel
theorem dX3_refuses_1 : decode cX3_refuses 1 = .ok (.invokestatic 67, 3) := by decide +kernel
theorem dX3_refuses_4 : decode cX3_refuses 4 = .ok (.ifCond .eq 15, 3) := by decide +kernel
theorem dX3_refuses_7 : decode cX3_refuses 7 = .ok (.iload_n 2, 1) := by decide +kernel
theorem dX3_refuses_8 : decode cX3_refuses 8 = .ok (.iconst (-1), 1) := by decide +kernel
theorem dX3_refuses_9 : decode cX3_refuses 9 = .ok (.if_icmp .eq 12, 3) := by decide +kernel
theorem dX3_refuses_12 : decode cX3_refuses 12 = .ok (.iload_n 2, 1) := by decide +kernel
theorem dX3_refuses_13 : decode cX3_refuses 13 = .ok (.invokestatic 67, 3) := by decide +kernel
theorem dX3_refuses_16 : decode cX3_refuses 16 = .ok (.ifCond .ne 5, 3) := by decide +kernel
theorem dX3_refuses_19 : decode cX3_refuses 19 = .ok (.iconst 1, 1) := by decide +kernel
theorem dX3_refuses_20 : decode cX3_refuses 20 = .ok (.ireturn, 1) := by decide +kernel
theorem dX3_refuses_21 : decode cX3_refuses 21 = .ok (.iload_n 1, 1) := by decide +kernel
theorem dX3_refuses_22 : decode cX3_refuses 22 = .ok (.iload_n 2, 1) := by decide +kernel
theorem dX3_refuses_23 : decode cX3_refuses 23 = .ok (.if_icmp .ne 5, 3) := by decide +kernel
theorem dX3_refuses_26 : decode cX3_refuses 26 = .ok (.iconst 2, 1) := by decide +kernel
theorem dX3_refuses_27 : decode cX3_refuses 27 = .ok (.ireturn, 1) := by decide +kernel
theorem dX3_refuses_28 : decode cX3_refuses 28 = .ok (.iload_n 2, 1) := by decide +kernel
theorem dX3_refuses_29 : decode cX3_refuses 29 = .ok (.iconst (-1), 1) := by decide +kernel
theorem dX3_refuses_30 : decode cX3_refuses 30 = .ok (.if_icmp .eq 25, 3) := by decide +kernel
theorem dX3_refuses_33 : decode cX3_refuses 33 = .ok (.aload_n 0, 1) := by decide +kernel
theorem dX3_refuses_34 : decode cX3_refuses 34 = .ok (.iload_n 1, 1) := by decide +kernel
theorem dX3_refuses_35 : decode cX3_refuses 35 = .ok (.invokevirtual 75, 3) := by decide +kernel
theorem dX3_refuses_38 : decode cX3_refuses 38 = .ok (.ifCond .ne 13, 3) := by decide +kernel
theorem dX3_refuses_41 : decode cX3_refuses 41 = .ok (.aload_n 0, 1) := by decide +kernel
theorem dX3_refuses_42 : decode cX3_refuses 42 = .ok (.getfield 13, 3) := by decide +kernel
theorem dX3_refuses_45 : decode cX3_refuses 45 = .ok (.iload_n 2, 1) := by decide +kernel
theorem dX3_refuses_46 : decode cX3_refuses 46 = .ok (.iaload, 1) := by decide +kernel
theorem dX3_refuses_47 : decode cX3_refuses 47 = .ok (.iconst (-1), 1) := by decide +kernel
theorem dX3_refuses_48 : decode cX3_refuses 48 = .ok (.if_icmp .eq 7, 3) := by decide +kernel
theorem dX3_refuses_51 : decode cX3_refuses 51 = .ok (.iconst 3, 1) := by decide +kernel
theorem dX3_refuses_52 : decode cX3_refuses 52 = .ok (.goto 4, 3) := by decide +kernel
theorem dX3_refuses_55 : decode cX3_refuses 55 = .ok (.iconst 0, 1) := by decide +kernel
theorem dX3_refuses_56 : decode cX3_refuses 56 = .ok (.ireturn, 1) := by decide +kernel
set_option maxRecDepth 20000 in
theorem ggX3_move_X3_refuses : GoodIn wsX3_move wsX3_refuses := goodIn_r _ [7, 2, 8, 9, 6, 10, 11, 12, 13, 14, 15, 16, 17, 18, 19, 20, 21, 22, 23, 24, 25, 26, 27, 28, 29, 30, 31, 32, 33, 34, 35, 36] (by decide +kernel) (by decide +kernel)
set_option maxRecDepth 20000 in
theorem gX3_move_X3_refuses : GoodIn wsX3_move (wsV RX3 78 RX3 yX3_refuses wsX3_refuses) := goodIn_app (goodIn_of _ (by decide +kernel)) ggX3_move_X3_refuses
theorem dX3_move_0 : decode cX3_move 0 = .ok (.aload_n 0, 1) := by decide +kernel
theorem dX3_move_1 : decode cX3_move 1 = .ok (.aload_n 0, 1) := by decide +kernel
theorem dX3_move_2 : decode cX3_move 2 = .ok (.iload_n 1, 1) := by decide +kernel
theorem dX3_move_3 : decode cX3_move 3 = .ok (.iload_n 2, 1) := by decide +kernel
theorem dX3_move_4 : decode cX3_move 4 = .ok (.invokevirtual 78, 3) := by decide +kernel
theorem dX3_move_7 : decode cX3_move 7 = .ok (.putfield 56, 3) := by decide +kernel
theorem dX3_move_10 : decode cX3_move 10 = .ok (.aload_n 0, 1) := by decide +kernel
theorem dX3_move_11 : decode cX3_move 11 = .ok (.getfield 56, 3) := by decide +kernel
theorem dX3_move_14 : decode cX3_move 14 = .ok (.ifCond .le 5, 3) := by decide +kernel
theorem dX3_move_17 : decode cX3_move 17 = .ok (.iconst 0, 1) := by decide +kernel
theorem dX3_move_18 : decode cX3_move 18 = .ok (.ireturn, 1) := by decide +kernel
theorem dX3_move_19 : decode cX3_move 19 = .ok (.aload_n 0, 1) := by decide +kernel
theorem dX3_move_20 : decode cX3_move 20 = .ok (.getfield 13, 3) := by decide +kernel
theorem dX3_move_23 : decode cX3_move 23 = .ok (.iload_n 1, 1) := by decide +kernel
theorem dX3_move_24 : decode cX3_move 24 = .ok (.iaload, 1) := by decide +kernel
theorem dX3_move_25 : decode cX3_move 25 = .ok (.istore_n 3, 1) := by decide +kernel
theorem dX3_move_26 : decode cX3_move 26 = .ok (.aload_n 0, 1) := by decide +kernel
theorem dX3_move_27 : decode cX3_move 27 = .ok (.getfield 13, 3) := by decide +kernel
theorem dX3_move_30 : decode cX3_move 30 = .ok (.iload_n 1, 1) := by decide +kernel
theorem dX3_move_31 : decode cX3_move 31 = .ok (.iload_n 2, 1) := by decide +kernel
theorem dX3_move_32 : decode cX3_move 32 = .ok (.iastore, 1) := by decide +kernel
theorem dX3_move_33 : decode cX3_move 33 = .ok (.iload_n 3, 1) := by decide +kernel
theorem dX3_move_34 : decode cX3_move 34 = .ok (.ireturn, 1) := by decide +kernel
set_option maxRecDepth 20000 in
theorem ggX3_find_X3_isMachine : GoodIn wsX3_find wsX3_isMachine := goodIn_r _ [7, 8, 9, 6, 10] (by decide +kernel) (by decide +kernel)
set_option maxRecDepth 20000 in
theorem gX3_find_X3_isMachine : GoodIn wsX3_find (va_wsS RX3 67 yX3_isMachine wsX3_isMachine) := goodIn_app (goodIn_of _ (by decide +kernel)) ggX3_find_X3_isMachine
set_option maxRecDepth 20000 in
theorem ggX3_find_X3_isProduct : GoodIn wsX3_find wsX3_isProduct := goodIn_r _ [13, 8, 9, 6, 10] (by decide +kernel) (by decide +kernel)
set_option maxRecDepth 20000 in
theorem gX3_find_X3_isProduct : GoodIn wsX3_find (va_wsS RX3 82 yX3_isProduct wsX3_isProduct) := goodIn_app (goodIn_of _ (by decide +kernel)) ggX3_find_X3_isProduct
set_option maxRecDepth 20000 in
theorem ggX3_find_X3_fails : GoodIn wsX3_find wsX3_fails := goodIn_r _ [17, 1, 18, 19, 20, 21, 22, 23, 24, 25, 26, 27, 28, 29, 30, 31, 32, 33, 34, 35, 36] (by decide +kernel) (by decide +kernel)
set_option maxRecDepth 20000 in
theorem gX3_find_X3_fails : GoodIn wsX3_find (wsV RX3 71 RX3 yX3_fails wsX3_fails) := goodIn_app (goodIn_of _ (by decide +kernel)) ggX3_find_X3_fails
set_option maxRecDepth 20000 in
theorem ggX3_find_X3_in : GoodIn wsX3_find wsX3_in := goodIn_r _ [10] (by decide +kernel) (by decide +kernel)
set_option maxRecDepth 20000 in
theorem gX3_find_X3_in : GoodIn wsX3_find (va_wsS RX3 60 yX3_in wsX3_in) := goodIn_app (goodIn_of _ (by decide +kernel)) ggX3_find_X3_in
theorem dX3_find_0 : decode cX3_find 0 = .ok (.aload_n 0, 1) := by decide +kernel
theorem dX3_find_1 : decode cX3_find 1 = .ok (.iconst 0, 1) := by decide +kernel
theorem dX3_find_2 : decode cX3_find 2 = .ok (.putfield 56, 3) := by decide +kernel
theorem dX3_find_5 : decode cX3_find 5 = .ok (.iload_n 1, 1) := by decide +kernel
theorem dX3_find_6 : decode cX3_find 6 = .ok (.invokestatic 67, 3) := by decide +kernel
theorem dX3_find_9 : decode cX3_find 9 = .ok (.ifCond .eq 10, 3) := by decide +kernel
theorem dX3_find_12 : decode cX3_find 12 = .ok (.iload_n 2, 1) := by decide +kernel
theorem dX3_find_13 : decode cX3_find 13 = .ok (.invokestatic 82, 3) := by decide +kernel
theorem dX3_find_16 : decode cX3_find 16 = .ok (.ifCond .ne 9, 3) := by decide +kernel
theorem dX3_find_19 : decode cX3_find 19 = .ok (.aload_n 0, 1) := by decide +kernel
theorem dX3_find_20 : decode cX3_find 20 = .ok (.iconst 1, 1) := by decide +kernel
theorem dX3_find_21 : decode cX3_find 21 = .ok (.invokevirtual 71, 3) := by decide +kernel
theorem dX3_find_24 : decode cX3_find 24 = .ok (.ireturn, 1) := by decide +kernel
theorem dX3_find_25 : decode cX3_find 25 = .ok (.iload_n 3, 1) := by decide +kernel
theorem dX3_find_26 : decode cX3_find 26 = .ok (.iconst 0, 1) := by decide +kernel
theorem dX3_find_27 : decode cX3_find 27 = .ok (.aload_n 0, 1) := by decide +kernel
theorem dX3_find_28 : decode cX3_find 28 = .ok (.getfield 19, 3) := by decide +kernel
theorem dX3_find_31 : decode cX3_find 31 = .ok (.iload_n 2, 1) := by decide +kernel
theorem dX3_find_32 : decode cX3_find 32 = .ok (.iaload, 1) := by decide +kernel
theorem dX3_find_33 : decode cX3_find 33 = .ok (.invokestatic 60, 3) := by decide +kernel
theorem dX3_find_36 : decode cX3_find 36 = .ok (.ifCond .ne 9, 3) := by decide +kernel
theorem dX3_find_39 : decode cX3_find 39 = .ok (.aload_n 0, 1) := by decide +kernel
theorem dX3_find_40 : decode cX3_find 40 = .ok (.iconst 2, 1) := by decide +kernel
theorem dX3_find_41 : decode cX3_find 41 = .ok (.invokevirtual 71, 3) := by decide +kernel
theorem dX3_find_44 : decode cX3_find 44 = .ok (.ireturn, 1) := by decide +kernel
theorem dX3_find_45 : decode cX3_find 45 = .ok (.aload_n 0, 1) := by decide +kernel
theorem dX3_find_46 : decode cX3_find 46 = .ok (.getfield 16, 3) := by decide +kernel
theorem dX3_find_49 : decode cX3_find 49 = .ok (.iconst 4, 1) := by decide +kernel
theorem dX3_find_50 : decode cX3_find 50 = .ok (.iload_n 1, 1) := by decide +kernel
theorem dX3_find_51 : decode cX3_find 51 = .ok (.imul, 1) := by decide +kernel
theorem dX3_find_52 : decode cX3_find 52 = .ok (.iload_n 2, 1) := by decide +kernel
theorem dX3_find_53 : decode cX3_find 53 = .ok (.iadd, 1) := by decide +kernel
theorem dX3_find_54 : decode cX3_find 54 = .ok (.iaload, 1) := by decide +kernel
theorem dX3_find_55 : decode cX3_find 55 = .ok (.istore 4, 2) := by decide +kernel
theorem dX3_find_57 : decode cX3_find 57 = .ok (.aload_n 0, 1) := by decide +kernel
theorem dX3_find_58 : decode cX3_find 58 = .ok (.getfield 16, 3) := by decide +kernel
theorem dX3_find_61 : decode cX3_find 61 = .ok (.iconst 4, 1) := by decide +kernel
theorem dX3_find_62 : decode cX3_find 62 = .ok (.iload_n 1, 1) := by decide +kernel
theorem dX3_find_63 : decode cX3_find 63 = .ok (.imul, 1) := by decide +kernel
theorem dX3_find_64 : decode cX3_find 64 = .ok (.iload_n 2, 1) := by decide +kernel
theorem dX3_find_65 : decode cX3_find 65 = .ok (.iadd, 1) := by decide +kernel
theorem dX3_find_66 : decode cX3_find 66 = .ok (.iload_n 3, 1) := by decide +kernel
theorem dX3_find_67 : decode cX3_find 67 = .ok (.iastore, 1) := by decide +kernel
theorem dX3_find_68 : decode cX3_find 68 = .ok (.iload 4, 2) := by decide +kernel
theorem dX3_find_70 : decode cX3_find 70 = .ok (.ireturn, 1) := by decide +kernel
set_option maxRecDepth 20000 in
theorem ggX3_setPrice_X3_isProduct : GoodIn wsX3_setPrice wsX3_isProduct := goodIn_r _ [6, 7, 8, 5, 9] (by decide +kernel) (by decide +kernel)
set_option maxRecDepth 20000 in
theorem gX3_setPrice_X3_isProduct : GoodIn wsX3_setPrice (va_wsS RX3 82 yX3_isProduct wsX3_isProduct) := goodIn_app (goodIn_of _ (by decide +kernel)) ggX3_setPrice_X3_isProduct
set_option maxRecDepth 20000 in
theorem ggX3_setPrice_X3_fails : GoodIn wsX3_setPrice wsX3_fails := goodIn_r _ [13, 1, 14, 15, 16, 17, 18, 19, 20, 21, 22, 23, 24, 25, 26, 27, 28, 29, 30, 31, 32] (by decide +kernel) (by decide +kernel)
set_option maxRecDepth 20000 in
theorem gX3_setPrice_X3_fails : GoodIn wsX3_setPrice (wsV RX3 71 RX3 yX3_fails wsX3_fails) := goodIn_app (goodIn_of _ (by decide +kernel)) ggX3_setPrice_X3_fails
set_option maxRecDepth 20000 in
theorem ggX3_setPrice_X3_in : GoodIn wsX3_setPrice wsX3_in := goodIn_r _ [9] (by decide +kernel) (by decide +kernel)
set_option maxRecDepth 20000 in
theorem gX3_setPrice_X3_in : GoodIn wsX3_setPrice (va_wsS RX3 60 yX3_in wsX3_in) := goodIn_app (goodIn_of _ (by decide +kernel)) ggX3_setPrice_X3_in
theorem dX3_setPrice_0 : decode cX3_setPrice 0 = .ok (.aload_n 0, 1) := by decide +kernel
theorem dX3_setPrice_1 : decode cX3_setPrice 1 = .ok (.iconst 0, 1) := by decide +kernel
theorem dX3_setPrice_2 : decode cX3_setPrice 2 = .ok (.putfield 56, 3) := by decide +kernel
theorem dX3_setPrice_5 : decode cX3_setPrice 5 = .ok (.iload_n 1, 1) := by decide +kernel
theorem dX3_setPrice_6 : decode cX3_setPrice 6 = .ok (.invokestatic 82, 3) := by decide +kernel
theorem dX3_setPrice_9 : decode cX3_setPrice 9 = .ok (.ifCond .ne 9, 3) := by decide +kernel
theorem dX3_setPrice_12 : decode cX3_setPrice 12 = .ok (.aload_n 0, 1) := by decide +kernel
theorem dX3_setPrice_13 : decode cX3_setPrice 13 = .ok (.iconst 1, 1) := by decide +kernel
theorem dX3_setPrice_14 : decode cX3_setPrice 14 = .ok (.invokevirtual 71, 3) := by decide +kernel
theorem dX3_setPrice_17 : decode cX3_setPrice 17 = .ok (.ireturn, 1) := by decide +kernel
theorem dX3_setPrice_18 : decode cX3_setPrice 18 = .ok (.iload_n 2, 1) := by decide +kernel
theorem dX3_setPrice_19 : decode cX3_setPrice 19 = .ok (.iconst 0, 1) := by decide +kernel
theorem dX3_setPrice_20 : decode cX3_setPrice 20 = .ok (.sipush 1000, 3) := by decide +kernel
theorem dX3_setPrice_23 : decode cX3_setPrice 23 = .ok (.invokestatic 60, 3) := by decide +kernel
theorem dX3_setPrice_26 : decode cX3_setPrice 26 = .ok (.ifCond .ne 9, 3) := by decide +kernel
theorem dX3_setPrice_29 : decode cX3_setPrice 29 = .ok (.aload_n 0, 1) := by decide +kernel
theorem dX3_setPrice_30 : decode cX3_setPrice 30 = .ok (.iconst 2, 1) := by decide +kernel
theorem dX3_setPrice_31 : decode cX3_setPrice 31 = .ok (.invokevirtual 71, 3) := by decide +kernel
theorem dX3_setPrice_34 : decode cX3_setPrice 34 = .ok (.ireturn, 1) := by decide +kernel
theorem dX3_setPrice_35 : decode cX3_setPrice 35 = .ok (.aload_n 0, 1) := by decide +kernel
theorem dX3_setPrice_36 : decode cX3_setPrice 36 = .ok (.getfield 22, 3) := by decide +kernel
theorem dX3_setPrice_39 : decode cX3_setPrice 39 = .ok (.iload_n 1, 1) := by decide +kernel
theorem dX3_setPrice_40 : decode cX3_setPrice 40 = .ok (.iaload, 1) := by decide +kernel
theorem dX3_setPrice_41 : decode cX3_setPrice 41 = .ok (.istore_n 3, 1) := by decide +kernel
theorem dX3_setPrice_42 : decode cX3_setPrice 42 = .ok (.aload_n 0, 1) := by decide +kernel
theorem dX3_setPrice_43 : decode cX3_setPrice 43 = .ok (.getfield 22, 3) := by decide +kernel
theorem dX3_setPrice_46 : decode cX3_setPrice 46 = .ok (.iload_n 1, 1) := by decide +kernel
theorem dX3_setPrice_47 : decode cX3_setPrice 47 = .ok (.iload_n 2, 1) := by decide +kernel
theorem dX3_setPrice_48 : decode cX3_setPrice 48 = .ok (.iastore, 1) := by decide +kernel
theorem dX3_setPrice_49 : decode cX3_setPrice 49 = .ok (.iload_n 3, 1) := by decide +kernel
theorem dX3_setPrice_50 : decode cX3_setPrice 50 = .ok (.ireturn, 1) := by decide +kernel
set_option maxRecDepth 20000 in
theorem ggX3_release_X3_isProduct : GoodIn wsX3_release wsX3_isProduct := goodIn_r _ [11, 12, 13, 10, 14] (by decide +kernel) (by decide +kernel)
set_option maxRecDepth 20000 in
theorem gX3_release_X3_isProduct : GoodIn wsX3_release (va_wsS RX3 82 yX3_isProduct wsX3_isProduct) := goodIn_app (goodIn_of _ (by decide +kernel)) ggX3_release_X3_isProduct
set_option maxRecDepth 20000 in
theorem ggX3_release_X3_fails : GoodIn wsX3_release wsX3_fails := goodIn_r _ [18, 1, 19, 20, 21, 22, 23, 24, 25, 26, 27, 28, 29, 30, 31, 32, 33, 34, 35, 36, 37] (by decide +kernel) (by decide +kernel)
set_option maxRecDepth 20000 in
theorem gX3_release_X3_fails : GoodIn wsX3_release (wsV RX3 71 RX3 yX3_fails wsX3_fails) := goodIn_app (goodIn_of _ (by decide +kernel)) ggX3_release_X3_fails
theorem dX3_release_0 : decode cX3_release 0 = .ok (.aload_n 0, 1) := by decide +kernel
theorem dX3_release_1 : decode cX3_release 1 = .ok (.iconst 0, 1) := by decide +kernel
theorem dX3_release_2 : decode cX3_release 2 = .ok (.putfield 56, 3) := by decide +kernel
theorem dX3_release_5 : decode cX3_release 5 = .ok (.iload_n 1, 1) := by decide +kernel
theorem dX3_release_6 : decode cX3_release 6 = .ok (.invokestatic 82, 3) := by decide +kernel
theorem dX3_release_9 : decode cX3_release 9 = .ok (.ifCond .ne 9, 3) := by decide +kernel
theorem dX3_release_12 : decode cX3_release 12 = .ok (.aload_n 0, 1) := by decide +kernel
theorem dX3_release_13 : decode cX3_release 13 = .ok (.iconst 1, 1) := by decide +kernel
theorem dX3_release_14 : decode cX3_release 14 = .ok (.invokevirtual 71, 3) := by decide +kernel
theorem dX3_release_17 : decode cX3_release 17 = .ok (.ireturn, 1) := by decide +kernel
theorem dX3_release_18 : decode cX3_release 18 = .ok (.aload_n 0, 1) := by decide +kernel
theorem dX3_release_19 : decode cX3_release 19 = .ok (.getfield 19, 3) := by decide +kernel
theorem dX3_release_22 : decode cX3_release 22 = .ok (.iload_n 1, 1) := by decide +kernel
theorem dX3_release_23 : decode cX3_release 23 = .ok (.iaload, 1) := by decide +kernel
theorem dX3_release_24 : decode cX3_release 24 = .ok (.bipush 9, 2) := by decide +kernel
theorem dX3_release_26 : decode cX3_release 26 = .ok (.if_icmp .ne 9, 3) := by decide +kernel
theorem dX3_release_29 : decode cX3_release 29 = .ok (.aload_n 0, 1) := by decide +kernel
theorem dX3_release_30 : decode cX3_release 30 = .ok (.iconst 2, 1) := by decide +kernel
theorem dX3_release_31 : decode cX3_release 31 = .ok (.invokevirtual 71, 3) := by decide +kernel
theorem dX3_release_34 : decode cX3_release 34 = .ok (.ireturn, 1) := by decide +kernel
theorem dX3_release_35 : decode cX3_release 35 = .ok (.iconst 0, 1) := by decide +kernel
theorem dX3_release_36 : decode cX3_release 36 = .ok (.istore_n 2, 1) := by decide +kernel
theorem dX3_release_37 : decode cX3_release 37 = .ok (.iconst 0, 1) := by decide +kernel
theorem dX3_release_38 : decode cX3_release 38 = .ok (.istore_n 3, 1) := by decide +kernel
theorem dX3_release_39 : decode cX3_release 39 = .ok (.iload_n 3, 1) := by decide +kernel
theorem dX3_release_40 : decode cX3_release 40 = .ok (.aload_n 0, 1) := by decide +kernel
theorem dX3_release_41 : decode cX3_release 41 = .ok (.getfield 64, 3) := by decide +kernel
theorem dX3_release_44 : decode cX3_release 44 = .ok (.if_icmp .ge 60, 3) := by decide +kernel
theorem dX3_release_47 : decode cX3_release 47 = .ok (.aload_n 0, 1) := by decide +kernel
theorem dX3_release_48 : decode cX3_release 48 = .ok (.getfield 25, 3) := by decide +kernel
theorem dX3_release_51 : decode cX3_release 51 = .ok (.iload_n 3, 1) := by decide +kernel
theorem dX3_release_52 : decode cX3_release 52 = .ok (.iaload, 1) := by decide +kernel
theorem dX3_release_53 : decode cX3_release 53 = .ok (.iload_n 1, 1) := by decide +kernel
theorem dX3_release_54 : decode cX3_release 54 = .ok (.if_icmp .ne 44, 3) := by decide +kernel
theorem dX3_release_57 : decode cX3_release 57 = .ok (.aload_n 0, 1) := by decide +kernel
theorem dX3_release_58 : decode cX3_release 58 = .ok (.getfield 40, 3) := by decide +kernel
theorem dX3_release_61 : decode cX3_release 61 = .ok (.iload_n 3, 1) := by decide +kernel
theorem dX3_release_62 : decode cX3_release 62 = .ok (.iaload, 1) := by decide +kernel
theorem dX3_release_63 : decode cX3_release 63 = .ok (.aload_n 0, 1) := by decide +kernel
theorem dX3_release_64 : decode cX3_release 64 = .ok (.getfield 85, 3) := by decide +kernel
theorem dX3_release_67 : decode cX3_release 67 = .ok (.if_icmp .lt 31, 3) := by decide +kernel
theorem dX3_release_70 : decode cX3_release 70 = .ok (.aload_n 0, 1) := by decide +kernel
theorem dX3_release_71 : decode cX3_release 71 = .ok (.getfield 37, 3) := by decide +kernel
theorem dX3_release_74 : decode cX3_release 74 = .ok (.iload_n 3, 1) := by decide +kernel
theorem dX3_release_75 : decode cX3_release 75 = .ok (.iaload, 1) := by decide +kernel
theorem dX3_release_76 : decode cX3_release 76 = .ok (.aload_n 0, 1) := by decide +kernel
theorem dX3_release_77 : decode cX3_release 77 = .ok (.getfield 19, 3) := by decide +kernel
theorem dX3_release_80 : decode cX3_release 80 = .ok (.iload_n 1, 1) := by decide +kernel
theorem dX3_release_81 : decode cX3_release 81 = .ok (.iaload, 1) := by decide +kernel
theorem dX3_release_82 : decode cX3_release 82 = .ok (.if_icmp .ne 16, 3) := by decide +kernel
theorem dX3_release_85 : decode cX3_release 85 = .ok (.aload_n 0, 1) := by decide +kernel
theorem dX3_release_86 : decode cX3_release 86 = .ok (.getfield 37, 3) := by decide +kernel
theorem dX3_release_89 : decode cX3_release 89 = .ok (.iload_n 3, 1) := by decide +kernel
theorem dX3_release_90 : decode cX3_release 90 = .ok (.dup2, 1) := by decide +kernel
theorem dX3_release_91 : decode cX3_release 91 = .ok (.iaload, 1) := by decide +kernel
theorem dX3_release_92 : decode cX3_release 92 = .ok (.iconst 1, 1) := by decide +kernel
theorem dX3_release_93 : decode cX3_release 93 = .ok (.iadd, 1) := by decide +kernel
theorem dX3_release_94 : decode cX3_release 94 = .ok (.iastore, 1) := by decide +kernel
theorem dX3_release_95 : decode cX3_release 95 = .ok (.iinc 2 1, 3) := by decide +kernel
theorem dX3_release_98 : decode cX3_release 98 = .ok (.iinc 3 1, 3) := by decide +kernel
theorem dX3_release_101 : decode cX3_release 101 = .ok (.goto (-62), 3) := by decide +kernel
theorem dX3_release_104 : decode cX3_release 104 = .ok (.aload_n 0, 1) := by decide +kernel
theorem dX3_release_105 : decode cX3_release 105 = .ok (.getfield 19, 3) := by decide +kernel
theorem dX3_release_108 : decode cX3_release 108 = .ok (.iload_n 1, 1) := by decide +kernel
theorem dX3_release_109 : decode cX3_release 109 = .ok (.dup2, 1) := by decide +kernel
theorem dX3_release_110 : decode cX3_release 110 = .ok (.iaload, 1) := by decide +kernel
theorem dX3_release_111 : decode cX3_release 111 = .ok (.iconst 1, 1) := by decide +kernel
theorem dX3_release_112 : decode cX3_release 112 = .ok (.iadd, 1) := by decide +kernel
theorem dX3_release_113 : decode cX3_release 113 = .ok (.iastore, 1) := by decide +kernel
theorem dX3_release_114 : decode cX3_release 114 = .ok (.iload_n 2, 1) := by decide +kernel
theorem dX3_release_115 : decode cX3_release 115 = .ok (.ireturn, 1) := by decide +kernel
theorem dX3_lays_0 : decode cX3_lays 0 = .ok (.aload_n 0, 1) := by decide +kernel
theorem dX3_lays_1 : decode cX3_lays 1 = .ok (.getfield 25, 3) := by decide +kernel
theorem dX3_lays_4 : decode cX3_lays 4 = .ok (.aload_n 0, 1) := by decide +kernel
theorem dX3_lays_5 : decode cX3_lays 5 = .ok (.getfield 64, 3) := by decide +kernel
theorem dX3_lays_8 : decode cX3_lays 8 = .ok (.iload_n 1, 1) := by decide +kernel
theorem dX3_lays_9 : decode cX3_lays 9 = .ok (.iastore, 1) := by decide +kernel
theorem dX3_lays_10 : decode cX3_lays 10 = .ok (.aload_n 0, 1) := by decide +kernel
theorem dX3_lays_11 : decode cX3_lays 11 = .ok (.getfield 28, 3) := by decide +kernel
theorem dX3_lays_14 : decode cX3_lays 14 = .ok (.aload_n 0, 1) := by decide +kernel
theorem dX3_lays_15 : decode cX3_lays 15 = .ok (.getfield 64, 3) := by decide +kernel
theorem dX3_lays_18 : decode cX3_lays 18 = .ok (.iload_n 2, 1) := by decide +kernel
theorem dX3_lays_19 : decode cX3_lays 19 = .ok (.iastore, 1) := by decide +kernel
theorem dX3_lays_20 : decode cX3_lays 20 = .ok (.aload_n 0, 1) := by decide +kernel
theorem dX3_lays_21 : decode cX3_lays 21 = .ok (.getfield 31, 3) := by decide +kernel
theorem dX3_lays_24 : decode cX3_lays 24 = .ok (.aload_n 0, 1) := by decide +kernel
theorem dX3_lays_25 : decode cX3_lays 25 = .ok (.getfield 64, 3) := by decide +kernel
theorem dX3_lays_28 : decode cX3_lays 28 = .ok (.iload_n 3, 1) := by decide +kernel
theorem dX3_lays_29 : decode cX3_lays 29 = .ok (.iastore, 1) := by decide +kernel
theorem dX3_lays_30 : decode cX3_lays 30 = .ok (.aload_n 0, 1) := by decide +kernel
theorem dX3_lays_31 : decode cX3_lays 31 = .ok (.getfield 40, 3) := by decide +kernel
theorem dX3_lays_34 : decode cX3_lays 34 = .ok (.aload_n 0, 1) := by decide +kernel
theorem dX3_lays_35 : decode cX3_lays 35 = .ok (.getfield 64, 3) := by decide +kernel
theorem dX3_lays_38 : decode cX3_lays 38 = .ok (.iload 4, 2) := by decide +kernel
theorem dX3_lays_40 : decode cX3_lays 40 = .ok (.iastore, 1) := by decide +kernel
theorem dX3_lays_41 : decode cX3_lays 41 = .ok (.aload_n 0, 1) := by decide +kernel
theorem dX3_lays_42 : decode cX3_lays 42 = .ok (.getfield 37, 3) := by decide +kernel
theorem dX3_lays_45 : decode cX3_lays 45 = .ok (.aload_n 0, 1) := by decide +kernel
theorem dX3_lays_46 : decode cX3_lays 46 = .ok (.getfield 64, 3) := by decide +kernel
theorem dX3_lays_49 : decode cX3_lays 49 = .ok (.aload_n 0, 1) := by decide +kernel
theorem dX3_lays_50 : decode cX3_lays 50 = .ok (.getfield 19, 3) := by decide +kernel
theorem dX3_lays_53 : decode cX3_lays 53 = .ok (.iload_n 1, 1) := by decide +kernel
theorem dX3_lays_54 : decode cX3_lays 54 = .ok (.iaload, 1) := by decide +kernel
theorem dX3_lays_55 : decode cX3_lays 55 = .ok (.iastore, 1) := by decide +kernel
theorem dX3_lays_56 : decode cX3_lays 56 = .ok (.aload_n 0, 1) := by decide +kernel
theorem dX3_lays_57 : decode cX3_lays 57 = .ok (.dup, 1) := by decide +kernel
theorem dX3_lays_58 : decode cX3_lays 58 = .ok (.getfield 64, 3) := by decide +kernel
theorem dX3_lays_61 : decode cX3_lays 61 = .ok (.iconst 1, 1) := by decide +kernel
theorem dX3_lays_62 : decode cX3_lays 62 = .ok (.iadd, 1) := by decide +kernel
theorem dX3_lays_63 : decode cX3_lays 63 = .ok (.putfield 64, 3) := by decide +kernel
theorem dX3_lays_66 : decode cX3_lays 66 = .ok (.aload_n 0, 1) := by decide +kernel
theorem dX3_lays_67 : decode cX3_lays 67 = .ok (.getfield 64, 3) := by decide +kernel
theorem dX3_lays_70 : decode cX3_lays 70 = .ok (.iconst 1, 1) := by decide +kernel
theorem dX3_lays_71 : decode cX3_lays 71 = .ok (.isub, 1) := by decide +kernel
theorem dX3_lays_72 : decode cX3_lays 72 = .ok (.ireturn, 1) := by decide +kernel
set_option maxRecDepth 20000 in
theorem ggX3_buy_X3_isProduct : GoodIn wsX3_buy wsX3_isProduct := goodIn_r _ [7, 8, 9, 6, 10] (by decide +kernel) (by decide +kernel)
set_option maxRecDepth 20000 in
theorem gX3_buy_X3_isProduct : GoodIn wsX3_buy (va_wsS RX3 82 yX3_isProduct wsX3_isProduct) := goodIn_app (goodIn_of _ (by decide +kernel)) ggX3_buy_X3_isProduct
set_option maxRecDepth 20000 in
theorem ggX3_buy_X3_fails : GoodIn wsX3_buy wsX3_fails := goodIn_r _ [14, 1, 25, 26, 27, 28, 29, 30, 31, 32, 33, 34, 35, 36, 37, 38, 39, 40, 41, 42, 43] (by decide +kernel) (by decide +kernel)
set_option maxRecDepth 20000 in
theorem gX3_buy_X3_fails : GoodIn wsX3_buy (wsV RX3 71 RX3 yX3_fails wsX3_fails) := goodIn_app (goodIn_of _ (by decide +kernel)) ggX3_buy_X3_fails
set_option maxRecDepth 20000 in
theorem ggX3_buy_X3_in : GoodIn wsX3_buy wsX3_in := goodIn_r _ [10] (by decide +kernel) (by decide +kernel)
set_option maxRecDepth 20000 in
theorem gX3_buy_X3_in : GoodIn wsX3_buy (va_wsS RX3 60 yX3_in wsX3_in) := goodIn_app (goodIn_of _ (by decide +kernel)) ggX3_buy_X3_in
set_option maxRecDepth 20000 in
theorem ggX3_buy_X3_lays : GoodIn wsX3_buy wsX3_lays := goodIn_r _ [18, 19, 2, 20, 21, 22, 23, 24, 25, 26, 27, 28, 29, 30, 31, 32, 33, 34, 35, 36, 37, 38, 39, 40, 41, 42, 43] (by decide +kernel) (by decide +kernel)
set_option maxRecDepth 20000 in
theorem gX3_buy_X3_lays : GoodIn wsX3_buy (wsV RX3 88 RX3 yX3_lays wsX3_lays) := goodIn_app (goodIn_of _ (by decide +kernel)) ggX3_buy_X3_lays
theorem dX3_buy_0 : decode cX3_buy 0 = .ok (.aload_n 0, 1) := by decide +kernel
theorem dX3_buy_1 : decode cX3_buy 1 = .ok (.iconst 0, 1) := by decide +kernel
theorem dX3_buy_2 : decode cX3_buy 2 = .ok (.putfield 56, 3) := by decide +kernel
theorem dX3_buy_5 : decode cX3_buy 5 = .ok (.iload_n 1, 1) := by decide +kernel
theorem dX3_buy_6 : decode cX3_buy 6 = .ok (.invokestatic 82, 3) := by decide +kernel
theorem dX3_buy_9 : decode cX3_buy 9 = .ok (.ifCond .ne 9, 3) := by decide +kernel
theorem dX3_buy_12 : decode cX3_buy 12 = .ok (.aload_n 0, 1) := by decide +kernel
theorem dX3_buy_13 : decode cX3_buy 13 = .ok (.iconst 1, 1) := by decide +kernel
theorem dX3_buy_14 : decode cX3_buy 14 = .ok (.invokevirtual 71, 3) := by decide +kernel
theorem dX3_buy_17 : decode cX3_buy 17 = .ok (.ireturn, 1) := by decide +kernel
theorem dX3_buy_18 : decode cX3_buy 18 = .ok (.iload_n 2, 1) := by decide +kernel
theorem dX3_buy_19 : decode cX3_buy 19 = .ok (.iconst 0, 1) := by decide +kernel
theorem dX3_buy_20 : decode cX3_buy 20 = .ok (.iconst 1, 1) := by decide +kernel
theorem dX3_buy_21 : decode cX3_buy 21 = .ok (.invokestatic 60, 3) := by decide +kernel
theorem dX3_buy_24 : decode cX3_buy 24 = .ok (.ifCond .eq 26, 3) := by decide +kernel
theorem dX3_buy_27 : decode cX3_buy 27 = .ok (.iload_n 3, 1) := by decide +kernel
theorem dX3_buy_28 : decode cX3_buy 28 = .ok (.iconst 1, 1) := by decide +kernel
theorem dX3_buy_29 : decode cX3_buy 29 = .ok (.sipush 500, 3) := by decide +kernel
theorem dX3_buy_32 : decode cX3_buy 32 = .ok (.invokestatic 60, 3) := by decide +kernel
theorem dX3_buy_35 : decode cX3_buy 35 = .ok (.ifCond .eq 15, 3) := by decide +kernel
theorem dX3_buy_38 : decode cX3_buy 38 = .ok (.iload 4, 2) := by decide +kernel
theorem dX3_buy_40 : decode cX3_buy 40 = .ok (.iconst 0, 1) := by decide +kernel
theorem dX3_buy_41 : decode cX3_buy 41 = .ok (.sipush 1000, 3) := by decide +kernel
theorem dX3_buy_44 : decode cX3_buy 44 = .ok (.invokestatic 60, 3) := by decide +kernel
theorem dX3_buy_47 : decode cX3_buy 47 = .ok (.ifCond .ne 9, 3) := by decide +kernel
theorem dX3_buy_50 : decode cX3_buy 50 = .ok (.aload_n 0, 1) := by decide +kernel
theorem dX3_buy_51 : decode cX3_buy 51 = .ok (.iconst 2, 1) := by decide +kernel
theorem dX3_buy_52 : decode cX3_buy 52 = .ok (.invokevirtual 71, 3) := by decide +kernel
theorem dX3_buy_55 : decode cX3_buy 55 = .ok (.ireturn, 1) := by decide +kernel
theorem dX3_buy_56 : decode cX3_buy 56 = .ok (.aload_n 0, 1) := by decide +kernel
theorem dX3_buy_57 : decode cX3_buy 57 = .ok (.getfield 64, 3) := by decide +kernel
theorem dX3_buy_60 : decode cX3_buy 60 = .ok (.bipush 12, 2) := by decide +kernel
theorem dX3_buy_62 : decode cX3_buy 62 = .ok (.if_icmp .ne 11, 3) := by decide +kernel
theorem dX3_buy_65 : decode cX3_buy 65 = .ok (.aload_n 0, 1) := by decide +kernel
theorem dX3_buy_66 : decode cX3_buy 66 = .ok (.iconst 3, 1) := by decide +kernel
theorem dX3_buy_67 : decode cX3_buy 67 = .ok (.invokevirtual 71, 3) := by decide +kernel
theorem dX3_buy_70 : decode cX3_buy 70 = .ok (.goto 19, 3) := by decide +kernel
theorem dX3_buy_73 : decode cX3_buy 73 = .ok (.aload_n 0, 1) := by decide +kernel
theorem dX3_buy_74 : decode cX3_buy 74 = .ok (.iload_n 1, 1) := by decide +kernel
theorem dX3_buy_75 : decode cX3_buy 75 = .ok (.iload_n 2, 1) := by decide +kernel
theorem dX3_buy_76 : decode cX3_buy 76 = .ok (.iload_n 3, 1) := by decide +kernel
theorem dX3_buy_77 : decode cX3_buy 77 = .ok (.aload_n 0, 1) := by decide +kernel
theorem dX3_buy_78 : decode cX3_buy 78 = .ok (.getfield 85, 3) := by decide +kernel
theorem dX3_buy_81 : decode cX3_buy 81 = .ok (.iload 4, 2) := by decide +kernel
theorem dX3_buy_83 : decode cX3_buy 83 = .ok (.iadd, 1) := by decide +kernel
theorem dX3_buy_84 : decode cX3_buy 84 = .ok (.iconst 1, 1) := by decide +kernel
theorem dX3_buy_85 : decode cX3_buy 85 = .ok (.isub, 1) := by decide +kernel
theorem dX3_buy_86 : decode cX3_buy 86 = .ok (.invokevirtual 88, 3) := by decide +kernel
theorem dX3_buy_89 : decode cX3_buy 89 = .ok (.ireturn, 1) := by decide +kernel
set_option maxRecDepth 20000 in
theorem ggX3_upgrade_X3_isRight : GoodIn wsX3_upgrade wsX3_isRight := goodIn_r _ [13, 6, 14, 15, 12, 16, 25, 26, 27, 28, 29, 30, 31, 32, 33, 34, 35, 36, 37, 38, 39, 40, 41, 42, 43] (by decide +kernel) (by decide +kernel)
set_option maxRecDepth 20000 in
theorem gX3_upgrade_X3_isRight : GoodIn wsX3_upgrade (wsV RX3 92 RX3 yX3_isRight wsX3_isRight) := goodIn_app (goodIn_of _ (by decide +kernel)) ggX3_upgrade_X3_isRight
set_option maxRecDepth 20000 in
theorem ggX3_upgrade_X3_fails : GoodIn wsX3_upgrade wsX3_fails := goodIn_r _ [20, 1, 25, 26, 27, 28, 29, 30, 31, 32, 33, 34, 35, 36, 37, 38, 39, 40, 41, 42, 43] (by decide +kernel) (by decide +kernel)
set_option maxRecDepth 20000 in
theorem gX3_upgrade_X3_fails : GoodIn wsX3_upgrade (wsV RX3 71 RX3 yX3_fails wsX3_fails) := goodIn_app (goodIn_of _ (by decide +kernel)) ggX3_upgrade_X3_fails
set_option maxRecDepth 20000 in
theorem ggX3_upgrade_X3_in : GoodIn wsX3_upgrade wsX3_in := goodIn_r _ [16] (by decide +kernel) (by decide +kernel)
set_option maxRecDepth 20000 in
theorem gX3_upgrade_X3_in : GoodIn wsX3_upgrade (va_wsS RX3 60 yX3_in wsX3_in) := goodIn_app (goodIn_of _ (by decide +kernel)) ggX3_upgrade_X3_in
set_option maxRecDepth 20000 in
theorem ggX3_upgrade_X3_lays : GoodIn wsX3_upgrade wsX3_lays := goodIn_r _ [24, 5, 6, 7, 2, 8, 3, 4, 25, 26, 27, 28, 29, 30, 31, 32, 33, 34, 35, 36, 37, 38, 39, 40, 41, 42, 43] (by decide +kernel) (by decide +kernel)
set_option maxRecDepth 20000 in
theorem gX3_upgrade_X3_lays : GoodIn wsX3_upgrade (wsV RX3 88 RX3 yX3_lays wsX3_lays) := goodIn_app (goodIn_of _ (by decide +kernel)) ggX3_upgrade_X3_lays
theorem dX3_upgrade_0 : decode cX3_upgrade 0 = .ok (.aload_n 0, 1) := by decide +kernel
theorem dX3_upgrade_1 : decode cX3_upgrade 1 = .ok (.iconst 0, 1) := by decide +kernel
theorem dX3_upgrade_2 : decode cX3_upgrade 2 = .ok (.putfield 56, 3) := by decide +kernel
theorem dX3_upgrade_5 : decode cX3_upgrade 5 = .ok (.aload_n 0, 1) := by decide +kernel
theorem dX3_upgrade_6 : decode cX3_upgrade 6 = .ok (.iload_n 1, 1) := by decide +kernel
theorem dX3_upgrade_7 : decode cX3_upgrade 7 = .ok (.invokevirtual 92, 3) := by decide +kernel
theorem dX3_upgrade_10 : decode cX3_upgrade 10 = .ok (.ifCond .ne 9, 3) := by decide +kernel
theorem dX3_upgrade_13 : decode cX3_upgrade 13 = .ok (.aload_n 0, 1) := by decide +kernel
theorem dX3_upgrade_14 : decode cX3_upgrade 14 = .ok (.iconst 1, 1) := by decide +kernel
theorem dX3_upgrade_15 : decode cX3_upgrade 15 = .ok (.invokevirtual 71, 3) := by decide +kernel
theorem dX3_upgrade_18 : decode cX3_upgrade 18 = .ok (.ireturn, 1) := by decide +kernel
theorem dX3_upgrade_19 : decode cX3_upgrade 19 = .ok (.iload_n 2, 1) := by decide +kernel
theorem dX3_upgrade_20 : decode cX3_upgrade 20 = .ok (.iconst 1, 1) := by decide +kernel
theorem dX3_upgrade_21 : decode cX3_upgrade 21 = .ok (.sipush 500, 3) := by decide +kernel
theorem dX3_upgrade_24 : decode cX3_upgrade 24 = .ok (.invokestatic 60, 3) := by decide +kernel
theorem dX3_upgrade_27 : decode cX3_upgrade 27 = .ok (.ifCond .ne 9, 3) := by decide +kernel
theorem dX3_upgrade_30 : decode cX3_upgrade 30 = .ok (.aload_n 0, 1) := by decide +kernel
theorem dX3_upgrade_31 : decode cX3_upgrade 31 = .ok (.iconst 2, 1) := by decide +kernel
theorem dX3_upgrade_32 : decode cX3_upgrade 32 = .ok (.invokevirtual 71, 3) := by decide +kernel
theorem dX3_upgrade_35 : decode cX3_upgrade 35 = .ok (.ireturn, 1) := by decide +kernel
theorem dX3_upgrade_36 : decode cX3_upgrade 36 = .ok (.aload_n 0, 1) := by decide +kernel
theorem dX3_upgrade_37 : decode cX3_upgrade 37 = .ok (.getfield 31, 3) := by decide +kernel
theorem dX3_upgrade_40 : decode cX3_upgrade 40 = .ok (.iload_n 1, 1) := by decide +kernel
theorem dX3_upgrade_41 : decode cX3_upgrade 41 = .ok (.iaload, 1) := by decide +kernel
theorem dX3_upgrade_42 : decode cX3_upgrade 42 = .ok (.iload_n 2, 1) := by decide +kernel
theorem dX3_upgrade_43 : decode cX3_upgrade 43 = .ok (.if_icmp .lt 32, 3) := by decide +kernel
theorem dX3_upgrade_46 : decode cX3_upgrade 46 = .ok (.aload_n 0, 1) := by decide +kernel
theorem dX3_upgrade_47 : decode cX3_upgrade 47 = .ok (.getfield 37, 3) := by decide +kernel
theorem dX3_upgrade_50 : decode cX3_upgrade 50 = .ok (.iload_n 1, 1) := by decide +kernel
theorem dX3_upgrade_51 : decode cX3_upgrade 51 = .ok (.iaload, 1) := by decide +kernel
theorem dX3_upgrade_52 : decode cX3_upgrade 52 = .ok (.aload_n 0, 1) := by decide +kernel
theorem dX3_upgrade_53 : decode cX3_upgrade 53 = .ok (.getfield 19, 3) := by decide +kernel
theorem dX3_upgrade_56 : decode cX3_upgrade 56 = .ok (.aload_n 0, 1) := by decide +kernel
theorem dX3_upgrade_57 : decode cX3_upgrade 57 = .ok (.getfield 25, 3) := by decide +kernel
theorem dX3_upgrade_60 : decode cX3_upgrade 60 = .ok (.iload_n 1, 1) := by decide +kernel
theorem dX3_upgrade_61 : decode cX3_upgrade 61 = .ok (.iaload, 1) := by decide +kernel
theorem dX3_upgrade_62 : decode cX3_upgrade 62 = .ok (.iaload, 1) := by decide +kernel
theorem dX3_upgrade_63 : decode cX3_upgrade 63 = .ok (.if_icmp .eq 12, 3) := by decide +kernel
theorem dX3_upgrade_66 : decode cX3_upgrade 66 = .ok (.aload_n 0, 1) := by decide +kernel
theorem dX3_upgrade_67 : decode cX3_upgrade 67 = .ok (.getfield 64, 3) := by decide +kernel
theorem dX3_upgrade_70 : decode cX3_upgrade 70 = .ok (.bipush 12, 2) := by decide +kernel
theorem dX3_upgrade_72 : decode cX3_upgrade 72 = .ok (.if_icmp .ne 9, 3) := by decide +kernel
theorem dX3_upgrade_75 : decode cX3_upgrade 75 = .ok (.aload_n 0, 1) := by decide +kernel
theorem dX3_upgrade_76 : decode cX3_upgrade 76 = .ok (.iconst 3, 1) := by decide +kernel
theorem dX3_upgrade_77 : decode cX3_upgrade 77 = .ok (.invokevirtual 71, 3) := by decide +kernel
theorem dX3_upgrade_80 : decode cX3_upgrade 80 = .ok (.ireturn, 1) := by decide +kernel
theorem dX3_upgrade_81 : decode cX3_upgrade 81 = .ok (.aload_n 0, 1) := by decide +kernel
theorem dX3_upgrade_82 : decode cX3_upgrade 82 = .ok (.getfield 31, 3) := by decide +kernel
theorem dX3_upgrade_85 : decode cX3_upgrade 85 = .ok (.iload_n 1, 1) := by decide +kernel
theorem dX3_upgrade_86 : decode cX3_upgrade 86 = .ok (.dup2, 1) := by decide +kernel
theorem dX3_upgrade_87 : decode cX3_upgrade 87 = .ok (.iaload, 1) := by decide +kernel
theorem dX3_upgrade_88 : decode cX3_upgrade 88 = .ok (.iload_n 2, 1) := by decide +kernel
theorem dX3_upgrade_89 : decode cX3_upgrade 89 = .ok (.isub, 1) := by decide +kernel
theorem dX3_upgrade_90 : decode cX3_upgrade 90 = .ok (.iastore, 1) := by decide +kernel
theorem dX3_upgrade_91 : decode cX3_upgrade 91 = .ok (.aload_n 0, 1) := by decide +kernel
theorem dX3_upgrade_92 : decode cX3_upgrade 92 = .ok (.aload_n 0, 1) := by decide +kernel
theorem dX3_upgrade_93 : decode cX3_upgrade 93 = .ok (.getfield 25, 3) := by decide +kernel
theorem dX3_upgrade_96 : decode cX3_upgrade 96 = .ok (.iload_n 1, 1) := by decide +kernel
theorem dX3_upgrade_97 : decode cX3_upgrade 97 = .ok (.iaload, 1) := by decide +kernel
theorem dX3_upgrade_98 : decode cX3_upgrade 98 = .ok (.aload_n 0, 1) := by decide +kernel
theorem dX3_upgrade_99 : decode cX3_upgrade 99 = .ok (.getfield 28, 3) := by decide +kernel
theorem dX3_upgrade_102 : decode cX3_upgrade 102 = .ok (.iload_n 1, 1) := by decide +kernel
theorem dX3_upgrade_103 : decode cX3_upgrade 103 = .ok (.iaload, 1) := by decide +kernel
theorem dX3_upgrade_104 : decode cX3_upgrade 104 = .ok (.iload_n 2, 1) := by decide +kernel
theorem dX3_upgrade_105 : decode cX3_upgrade 105 = .ok (.aload_n 0, 1) := by decide +kernel
theorem dX3_upgrade_106 : decode cX3_upgrade 106 = .ok (.getfield 40, 3) := by decide +kernel
theorem dX3_upgrade_109 : decode cX3_upgrade 109 = .ok (.iload_n 1, 1) := by decide +kernel
theorem dX3_upgrade_110 : decode cX3_upgrade 110 = .ok (.iaload, 1) := by decide +kernel
theorem dX3_upgrade_111 : decode cX3_upgrade 111 = .ok (.invokevirtual 88, 3) := by decide +kernel
theorem dX3_upgrade_114 : decode cX3_upgrade 114 = .ok (.ireturn, 1) := by decide +kernel
set_option maxRecDepth 20000 in
theorem ggX3_lend_X3_isRight : GoodIn wsX3_lend wsX3_isRight := goodIn_r _ [8, 9, 10, 11, 7, 12, 17, 18, 19, 20, 21, 22, 23, 24, 25, 26, 27, 28, 29, 30, 31, 32, 33, 34, 35] (by decide +kernel) (by decide +kernel)
set_option maxRecDepth 20000 in
theorem gX3_lend_X3_isRight : GoodIn wsX3_lend (wsV RX3 92 RX3 yX3_isRight wsX3_isRight) := goodIn_app (goodIn_of _ (by decide +kernel)) ggX3_lend_X3_isRight
set_option maxRecDepth 20000 in
theorem ggX3_lend_X3_fails : GoodIn wsX3_lend wsX3_fails := goodIn_r _ [16, 1, 17, 18, 19, 20, 21, 22, 23, 24, 25, 26, 27, 28, 29, 30, 31, 32, 33, 34, 35] (by decide +kernel) (by decide +kernel)
set_option maxRecDepth 20000 in
theorem gX3_lend_X3_fails : GoodIn wsX3_lend (wsV RX3 71 RX3 yX3_fails wsX3_fails) := goodIn_app (goodIn_of _ (by decide +kernel)) ggX3_lend_X3_fails
set_option maxRecDepth 20000 in
theorem ggX3_lend_X3_in : GoodIn wsX3_lend wsX3_in := goodIn_r _ [12] (by decide +kernel) (by decide +kernel)
set_option maxRecDepth 20000 in
theorem gX3_lend_X3_in : GoodIn wsX3_lend (va_wsS RX3 60 yX3_in wsX3_in) := goodIn_app (goodIn_of _ (by decide +kernel)) ggX3_lend_X3_in
theorem dX3_lend_0 : decode cX3_lend 0 = .ok (.aload_n 0, 1) := by decide +kernel
theorem dX3_lend_1 : decode cX3_lend 1 = .ok (.iconst 0, 1) := by decide +kernel
theorem dX3_lend_2 : decode cX3_lend 2 = .ok (.putfield 56, 3) := by decide +kernel
theorem dX3_lend_5 : decode cX3_lend 5 = .ok (.aload_n 0, 1) := by decide +kernel
theorem dX3_lend_6 : decode cX3_lend 6 = .ok (.iload_n 1, 1) := by decide +kernel
theorem dX3_lend_7 : decode cX3_lend 7 = .ok (.invokevirtual 92, 3) := by decide +kernel
theorem dX3_lend_10 : decode cX3_lend 10 = .ok (.ifCond .ne 9, 3) := by decide +kernel
theorem dX3_lend_13 : decode cX3_lend 13 = .ok (.aload_n 0, 1) := by decide +kernel
theorem dX3_lend_14 : decode cX3_lend 14 = .ok (.iconst 1, 1) := by decide +kernel
theorem dX3_lend_15 : decode cX3_lend 15 = .ok (.invokevirtual 71, 3) := by decide +kernel
theorem dX3_lend_18 : decode cX3_lend 18 = .ok (.ireturn, 1) := by decide +kernel
theorem dX3_lend_19 : decode cX3_lend 19 = .ok (.iload_n 2, 1) := by decide +kernel
theorem dX3_lend_20 : decode cX3_lend 20 = .ok (.sipush (-500), 3) := by decide +kernel
theorem dX3_lend_23 : decode cX3_lend 23 = .ok (.sipush 500, 3) := by decide +kernel
theorem dX3_lend_26 : decode cX3_lend 26 = .ok (.invokestatic 60, 3) := by decide +kernel
theorem dX3_lend_29 : decode cX3_lend 29 = .ok (.ifCond .ne 9, 3) := by decide +kernel
theorem dX3_lend_32 : decode cX3_lend 32 = .ok (.aload_n 0, 1) := by decide +kernel
theorem dX3_lend_33 : decode cX3_lend 33 = .ok (.iconst 2, 1) := by decide +kernel
theorem dX3_lend_34 : decode cX3_lend 34 = .ok (.invokevirtual 71, 3) := by decide +kernel
theorem dX3_lend_37 : decode cX3_lend 37 = .ok (.ireturn, 1) := by decide +kernel
theorem dX3_lend_38 : decode cX3_lend 38 = .ok (.aload_n 0, 1) := by decide +kernel
theorem dX3_lend_39 : decode cX3_lend 39 = .ok (.getfield 31, 3) := by decide +kernel
theorem dX3_lend_42 : decode cX3_lend 42 = .ok (.iload_n 1, 1) := by decide +kernel
theorem dX3_lend_43 : decode cX3_lend 43 = .ok (.iaload, 1) := by decide +kernel
theorem dX3_lend_44 : decode cX3_lend 44 = .ok (.iload_n 2, 1) := by decide +kernel
theorem dX3_lend_45 : decode cX3_lend 45 = .ok (.if_icmp .lt 14, 3) := by decide +kernel
theorem dX3_lend_48 : decode cX3_lend 48 = .ok (.aload_n 0, 1) := by decide +kernel
theorem dX3_lend_49 : decode cX3_lend 49 = .ok (.getfield 34, 3) := by decide +kernel
theorem dX3_lend_52 : decode cX3_lend 52 = .ok (.iload_n 1, 1) := by decide +kernel
theorem dX3_lend_53 : decode cX3_lend 53 = .ok (.iaload, 1) := by decide +kernel
theorem dX3_lend_54 : decode cX3_lend 54 = .ok (.iload_n 2, 1) := by decide +kernel
theorem dX3_lend_55 : decode cX3_lend 55 = .ok (.iadd, 1) := by decide +kernel
theorem dX3_lend_56 : decode cX3_lend 56 = .ok (.ifCond .ge 9, 3) := by decide +kernel
theorem dX3_lend_59 : decode cX3_lend 59 = .ok (.aload_n 0, 1) := by decide +kernel
theorem dX3_lend_60 : decode cX3_lend 60 = .ok (.iconst 3, 1) := by decide +kernel
theorem dX3_lend_61 : decode cX3_lend 61 = .ok (.invokevirtual 71, 3) := by decide +kernel
theorem dX3_lend_64 : decode cX3_lend 64 = .ok (.ireturn, 1) := by decide +kernel
theorem dX3_lend_65 : decode cX3_lend 65 = .ok (.aload_n 0, 1) := by decide +kernel
theorem dX3_lend_66 : decode cX3_lend 66 = .ok (.getfield 31, 3) := by decide +kernel
theorem dX3_lend_69 : decode cX3_lend 69 = .ok (.iload_n 1, 1) := by decide +kernel
theorem dX3_lend_70 : decode cX3_lend 70 = .ok (.dup2, 1) := by decide +kernel
theorem dX3_lend_71 : decode cX3_lend 71 = .ok (.iaload, 1) := by decide +kernel
theorem dX3_lend_72 : decode cX3_lend 72 = .ok (.iload_n 2, 1) := by decide +kernel
theorem dX3_lend_73 : decode cX3_lend 73 = .ok (.isub, 1) := by decide +kernel
theorem dX3_lend_74 : decode cX3_lend 74 = .ok (.iastore, 1) := by decide +kernel
theorem dX3_lend_75 : decode cX3_lend 75 = .ok (.aload_n 0, 1) := by decide +kernel
theorem dX3_lend_76 : decode cX3_lend 76 = .ok (.getfield 34, 3) := by decide +kernel
theorem dX3_lend_79 : decode cX3_lend 79 = .ok (.iload_n 1, 1) := by decide +kernel
theorem dX3_lend_80 : decode cX3_lend 80 = .ok (.dup2, 1) := by decide +kernel
theorem dX3_lend_81 : decode cX3_lend 81 = .ok (.iaload, 1) := by decide +kernel
theorem dX3_lend_82 : decode cX3_lend 82 = .ok (.iload_n 2, 1) := by decide +kernel
theorem dX3_lend_83 : decode cX3_lend 83 = .ok (.iadd, 1) := by decide +kernel
theorem dX3_lend_84 : decode cX3_lend 84 = .ok (.iastore, 1) := by decide +kernel
theorem dX3_lend_85 : decode cX3_lend 85 = .ok (.aload_n 0, 1) := by decide +kernel
theorem dX3_lend_86 : decode cX3_lend 86 = .ok (.getfield 34, 3) := by decide +kernel
theorem dX3_lend_89 : decode cX3_lend 89 = .ok (.iload_n 1, 1) := by decide +kernel
theorem dX3_lend_90 : decode cX3_lend 90 = .ok (.iaload, 1) := by decide +kernel
theorem dX3_lend_91 : decode cX3_lend 91 = .ok (.ireturn, 1) := by decide +kernel
set_option maxRecDepth 20000 in
theorem ggX3_pass_X3_in : GoodIn wsX3_pass wsX3_in := goodIn_r _ [6] (by decide +kernel) (by decide +kernel)
set_option maxRecDepth 20000 in
theorem gX3_pass_X3_in : GoodIn wsX3_pass (va_wsS RX3 60 yX3_in wsX3_in) := goodIn_app (goodIn_of _ (by decide +kernel)) ggX3_pass_X3_in
set_option maxRecDepth 20000 in
theorem ggX3_pass_X3_fails : GoodIn wsX3_pass wsX3_fails := goodIn_r _ [10, 1, 11, 12, 13, 14, 15, 16, 17, 18, 19, 20, 21, 22, 23, 24, 25, 26, 27, 28, 29] (by decide +kernel) (by decide +kernel)
set_option maxRecDepth 20000 in
theorem gX3_pass_X3_fails : GoodIn wsX3_pass (wsV RX3 71 RX3 yX3_fails wsX3_fails) := goodIn_app (goodIn_of _ (by decide +kernel)) ggX3_pass_X3_fails
theorem dX3_pass_0 : decode cX3_pass 0 = .ok (.aload_n 0, 1) := by decide +kernel
theorem dX3_pass_1 : decode cX3_pass 1 = .ok (.iconst 0, 1) := by decide +kernel
theorem dX3_pass_2 : decode cX3_pass 2 = .ok (.putfield 56, 3) := by decide +kernel
theorem dX3_pass_5 : decode cX3_pass 5 = .ok (.iload_n 1, 1) := by decide +kernel
theorem dX3_pass_6 : decode cX3_pass 6 = .ok (.iconst 1, 1) := by decide +kernel
theorem dX3_pass_7 : decode cX3_pass 7 = .ok (.sipush 400, 3) := by decide +kernel
theorem dX3_pass_10 : decode cX3_pass 10 = .ok (.invokestatic 60, 3) := by decide +kernel
theorem dX3_pass_13 : decode cX3_pass 13 = .ok (.ifCond .ne 9, 3) := by decide +kernel
theorem dX3_pass_16 : decode cX3_pass 16 = .ok (.aload_n 0, 1) := by decide +kernel
theorem dX3_pass_17 : decode cX3_pass 17 = .ok (.iconst 1, 1) := by decide +kernel
theorem dX3_pass_18 : decode cX3_pass 18 = .ok (.invokevirtual 71, 3) := by decide +kernel
theorem dX3_pass_21 : decode cX3_pass 21 = .ok (.ireturn, 1) := by decide +kernel
theorem dX3_pass_22 : decode cX3_pass 22 = .ok (.aload_n 0, 1) := by decide +kernel
theorem dX3_pass_23 : decode cX3_pass 23 = .ok (.dup, 1) := by decide +kernel
theorem dX3_pass_24 : decode cX3_pass 24 = .ok (.getfield 85, 3) := by decide +kernel
theorem dX3_pass_27 : decode cX3_pass 27 = .ok (.iload_n 1, 1) := by decide +kernel
theorem dX3_pass_28 : decode cX3_pass 28 = .ok (.iadd, 1) := by decide +kernel
theorem dX3_pass_29 : decode cX3_pass 29 = .ok (.putfield 85, 3) := by decide +kernel
theorem dX3_pass_32 : decode cX3_pass 32 = .ok (.aload_n 0, 1) := by decide +kernel
theorem dX3_pass_33 : decode cX3_pass 33 = .ok (.getfield 85, 3) := by decide +kernel
theorem dX3_pass_36 : decode cX3_pass 36 = .ok (.ireturn, 1) := by decide +kernel
theorem dX3_today_0 : decode cX3_today 0 = .ok (.aload_n 0, 1) := by decide +kernel
theorem dX3_today_1 : decode cX3_today 1 = .ok (.iconst 0, 1) := by decide +kernel
theorem dX3_today_2 : decode cX3_today 2 = .ok (.putfield 56, 3) := by decide +kernel
theorem dX3_today_5 : decode cX3_today 5 = .ok (.aload_n 0, 1) := by decide +kernel
theorem dX3_today_6 : decode cX3_today 6 = .ok (.getfield 85, 3) := by decide +kernel
theorem dX3_today_9 : decode cX3_today 9 = .ok (.ireturn, 1) := by decide +kernel
theorem dX3_rights_0 : decode cX3_rights 0 = .ok (.aload_n 0, 1) := by decide +kernel
theorem dX3_rights_1 : decode cX3_rights 1 = .ok (.iconst 0, 1) := by decide +kernel
theorem dX3_rights_2 : decode cX3_rights 2 = .ok (.putfield 56, 3) := by decide +kernel
theorem dX3_rights_5 : decode cX3_rights 5 = .ok (.aload_n 0, 1) := by decide +kernel
theorem dX3_rights_6 : decode cX3_rights 6 = .ok (.getfield 64, 3) := by decide +kernel
theorem dX3_rights_9 : decode cX3_rights 9 = .ok (.ireturn, 1) := by decide +kernel
set_option maxRecDepth 20000 in
theorem ggX3_countOf_X3_isRight : GoodIn wsX3_countOf wsX3_isRight := goodIn_r _ [7, 8, 9, 10, 6, 11, 16, 17, 18, 19, 20, 21, 22, 23, 24, 25, 26, 27, 28, 29, 30, 31, 32, 33, 34] (by decide +kernel) (by decide +kernel)
set_option maxRecDepth 20000 in
theorem gX3_countOf_X3_isRight : GoodIn wsX3_countOf (wsV RX3 92 RX3 yX3_isRight wsX3_isRight) := goodIn_app (goodIn_of _ (by decide +kernel)) ggX3_countOf_X3_isRight
set_option maxRecDepth 20000 in
theorem ggX3_countOf_X3_fails : GoodIn wsX3_countOf wsX3_fails := goodIn_r _ [15, 1, 16, 17, 18, 19, 20, 21, 22, 23, 24, 25, 26, 27, 28, 29, 30, 31, 32, 33, 34] (by decide +kernel) (by decide +kernel)
set_option maxRecDepth 20000 in
theorem gX3_countOf_X3_fails : GoodIn wsX3_countOf (wsV RX3 71 RX3 yX3_fails wsX3_fails) := goodIn_app (goodIn_of _ (by decide +kernel)) ggX3_countOf_X3_fails
theorem dX3_countOf_0 : decode cX3_countOf 0 = .ok (.aload_n 0, 1) := by decide +kernel
theorem dX3_countOf_1 : decode cX3_countOf 1 = .ok (.iconst 0, 1) := by decide +kernel
theorem dX3_countOf_2 : decode cX3_countOf 2 = .ok (.putfield 56, 3) := by decide +kernel
theorem dX3_countOf_5 : decode cX3_countOf 5 = .ok (.aload_n 0, 1) := by decide +kernel
theorem dX3_countOf_6 : decode cX3_countOf 6 = .ok (.iload_n 1, 1) := by decide +kernel
theorem dX3_countOf_7 : decode cX3_countOf 7 = .ok (.invokevirtual 92, 3) := by decide +kernel
theorem dX3_countOf_10 : decode cX3_countOf 10 = .ok (.ifCond .eq 12, 3) := by decide +kernel
theorem dX3_countOf_13 : decode cX3_countOf 13 = .ok (.aload_n 0, 1) := by decide +kernel
theorem dX3_countOf_14 : decode cX3_countOf 14 = .ok (.getfield 31, 3) := by decide +kernel
theorem dX3_countOf_17 : decode cX3_countOf 17 = .ok (.iload_n 1, 1) := by decide +kernel
theorem dX3_countOf_18 : decode cX3_countOf 18 = .ok (.iaload, 1) := by decide +kernel
theorem dX3_countOf_19 : decode cX3_countOf 19 = .ok (.goto 8, 3) := by decide +kernel
theorem dX3_countOf_22 : decode cX3_countOf 22 = .ok (.aload_n 0, 1) := by decide +kernel
theorem dX3_countOf_23 : decode cX3_countOf 23 = .ok (.iconst 1, 1) := by decide +kernel
theorem dX3_countOf_24 : decode cX3_countOf 24 = .ok (.invokevirtual 71, 3) := by decide +kernel
theorem dX3_countOf_27 : decode cX3_countOf 27 = .ok (.ireturn, 1) := by decide +kernel
set_option maxRecDepth 20000 in
theorem ggX3_versionOf_X3_isRight : GoodIn wsX3_versionOf wsX3_isRight := goodIn_r _ [7, 8, 9, 10, 6, 11, 16, 17, 18, 19, 20, 21, 22, 23, 24, 25, 26, 27, 28, 29, 30, 31, 32, 33, 34] (by decide +kernel) (by decide +kernel)
set_option maxRecDepth 20000 in
theorem gX3_versionOf_X3_isRight : GoodIn wsX3_versionOf (wsV RX3 92 RX3 yX3_isRight wsX3_isRight) := goodIn_app (goodIn_of _ (by decide +kernel)) ggX3_versionOf_X3_isRight
set_option maxRecDepth 20000 in
theorem ggX3_versionOf_X3_fails : GoodIn wsX3_versionOf wsX3_fails := goodIn_r _ [15, 1, 16, 17, 18, 19, 20, 21, 22, 23, 24, 25, 26, 27, 28, 29, 30, 31, 32, 33, 34] (by decide +kernel) (by decide +kernel)
set_option maxRecDepth 20000 in
theorem gX3_versionOf_X3_fails : GoodIn wsX3_versionOf (wsV RX3 71 RX3 yX3_fails wsX3_fails) := goodIn_app (goodIn_of _ (by decide +kernel)) ggX3_versionOf_X3_fails
theorem dX3_versionOf_0 : decode cX3_versionOf 0 = .ok (.aload_n 0, 1) := by decide +kernel
theorem dX3_versionOf_1 : decode cX3_versionOf 1 = .ok (.iconst 0, 1) := by decide +kernel
theorem dX3_versionOf_2 : decode cX3_versionOf 2 = .ok (.putfield 56, 3) := by decide +kernel
theorem dX3_versionOf_5 : decode cX3_versionOf 5 = .ok (.aload_n 0, 1) := by decide +kernel
theorem dX3_versionOf_6 : decode cX3_versionOf 6 = .ok (.iload_n 1, 1) := by decide +kernel
theorem dX3_versionOf_7 : decode cX3_versionOf 7 = .ok (.invokevirtual 92, 3) := by decide +kernel
theorem dX3_versionOf_10 : decode cX3_versionOf 10 = .ok (.ifCond .eq 12, 3) := by decide +kernel
theorem dX3_versionOf_13 : decode cX3_versionOf 13 = .ok (.aload_n 0, 1) := by decide +kernel
theorem dX3_versionOf_14 : decode cX3_versionOf 14 = .ok (.getfield 37, 3) := by decide +kernel
theorem dX3_versionOf_17 : decode cX3_versionOf 17 = .ok (.iload_n 1, 1) := by decide +kernel
theorem dX3_versionOf_18 : decode cX3_versionOf 18 = .ok (.iaload, 1) := by decide +kernel
theorem dX3_versionOf_19 : decode cX3_versionOf 19 = .ok (.goto 8, 3) := by decide +kernel
theorem dX3_versionOf_22 : decode cX3_versionOf 22 = .ok (.aload_n 0, 1) := by decide +kernel
theorem dX3_versionOf_23 : decode cX3_versionOf 23 = .ok (.iconst 1, 1) := by decide +kernel
theorem dX3_versionOf_24 : decode cX3_versionOf 24 = .ok (.invokevirtual 71, 3) := by decide +kernel
theorem dX3_versionOf_27 : decode cX3_versionOf 27 = .ok (.ireturn, 1) := by decide +kernel
set_option maxRecDepth 20000 in
theorem ggX3_latest_X3_isProduct : GoodIn wsX3_latest wsX3_isProduct := goodIn_r _ [6, 7, 8, 5, 9] (by decide +kernel) (by decide +kernel)
set_option maxRecDepth 20000 in
theorem gX3_latest_X3_isProduct : GoodIn wsX3_latest (va_wsS RX3 82 yX3_isProduct wsX3_isProduct) := goodIn_app (goodIn_of _ (by decide +kernel)) ggX3_latest_X3_isProduct
set_option maxRecDepth 20000 in
theorem ggX3_latest_X3_fails : GoodIn wsX3_latest wsX3_fails := goodIn_r _ [13, 1, 14, 15, 16, 17, 18, 19, 20, 21, 22, 23, 24, 25, 26, 27, 28, 29, 30, 31, 32] (by decide +kernel) (by decide +kernel)
set_option maxRecDepth 20000 in
theorem gX3_latest_X3_fails : GoodIn wsX3_latest (wsV RX3 71 RX3 yX3_fails wsX3_fails) := goodIn_app (goodIn_of _ (by decide +kernel)) ggX3_latest_X3_fails
theorem dX3_latest_0 : decode cX3_latest 0 = .ok (.aload_n 0, 1) := by decide +kernel
theorem dX3_latest_1 : decode cX3_latest 1 = .ok (.iconst 0, 1) := by decide +kernel
theorem dX3_latest_2 : decode cX3_latest 2 = .ok (.putfield 56, 3) := by decide +kernel
theorem dX3_latest_5 : decode cX3_latest 5 = .ok (.iload_n 1, 1) := by decide +kernel
theorem dX3_latest_6 : decode cX3_latest 6 = .ok (.invokestatic 82, 3) := by decide +kernel
theorem dX3_latest_9 : decode cX3_latest 9 = .ok (.ifCond .eq 12, 3) := by decide +kernel
theorem dX3_latest_12 : decode cX3_latest 12 = .ok (.aload_n 0, 1) := by decide +kernel
theorem dX3_latest_13 : decode cX3_latest 13 = .ok (.getfield 19, 3) := by decide +kernel
theorem dX3_latest_16 : decode cX3_latest 16 = .ok (.iload_n 1, 1) := by decide +kernel
theorem dX3_latest_17 : decode cX3_latest 17 = .ok (.iaload, 1) := by decide +kernel
theorem dX3_latest_18 : decode cX3_latest 18 = .ok (.goto 8, 3) := by decide +kernel
theorem dX3_latest_21 : decode cX3_latest 21 = .ok (.aload_n 0, 1) := by decide +kernel
theorem dX3_latest_22 : decode cX3_latest 22 = .ok (.iconst 1, 1) := by decide +kernel
theorem dX3_latest_23 : decode cX3_latest 23 = .ok (.invokevirtual 71, 3) := by decide +kernel
theorem dX3_latest_26 : decode cX3_latest 26 = .ok (.ireturn, 1) := by decide +kernel
set_option maxRecDepth 20000 in
theorem ggX3_hostOf_X3_isMachine : GoodIn wsX3_hostOf wsX3_isMachine := goodIn_r _ [6, 7, 8, 5, 9] (by decide +kernel) (by decide +kernel)
set_option maxRecDepth 20000 in
theorem gX3_hostOf_X3_isMachine : GoodIn wsX3_hostOf (va_wsS RX3 67 yX3_isMachine wsX3_isMachine) := goodIn_app (goodIn_of _ (by decide +kernel)) ggX3_hostOf_X3_isMachine
set_option maxRecDepth 20000 in
theorem ggX3_hostOf_X3_fails : GoodIn wsX3_hostOf wsX3_fails := goodIn_r _ [13, 1, 14, 15, 16, 17, 18, 19, 20, 21, 22, 23, 24, 25, 26, 27, 28, 29, 30, 31, 32] (by decide +kernel) (by decide +kernel)
set_option maxRecDepth 20000 in
theorem gX3_hostOf_X3_fails : GoodIn wsX3_hostOf (wsV RX3 71 RX3 yX3_fails wsX3_fails) := goodIn_app (goodIn_of _ (by decide +kernel)) ggX3_hostOf_X3_fails
theorem dX3_hostOf_0 : decode cX3_hostOf 0 = .ok (.aload_n 0, 1) := by decide +kernel
theorem dX3_hostOf_1 : decode cX3_hostOf 1 = .ok (.iconst 0, 1) := by decide +kernel
theorem dX3_hostOf_2 : decode cX3_hostOf 2 = .ok (.putfield 56, 3) := by decide +kernel
theorem dX3_hostOf_5 : decode cX3_hostOf 5 = .ok (.iload_n 1, 1) := by decide +kernel
theorem dX3_hostOf_6 : decode cX3_hostOf 6 = .ok (.invokestatic 67, 3) := by decide +kernel
theorem dX3_hostOf_9 : decode cX3_hostOf 9 = .ok (.ifCond .eq 12, 3) := by decide +kernel
theorem dX3_hostOf_12 : decode cX3_hostOf 12 = .ok (.aload_n 0, 1) := by decide +kernel
theorem dX3_hostOf_13 : decode cX3_hostOf 13 = .ok (.getfield 13, 3) := by decide +kernel
theorem dX3_hostOf_16 : decode cX3_hostOf 16 = .ok (.iload_n 1, 1) := by decide +kernel
theorem dX3_hostOf_17 : decode cX3_hostOf 17 = .ok (.iaload, 1) := by decide +kernel
theorem dX3_hostOf_18 : decode cX3_hostOf 18 = .ok (.goto 8, 3) := by decide +kernel
theorem dX3_hostOf_21 : decode cX3_hostOf 21 = .ok (.aload_n 0, 1) := by decide +kernel
theorem dX3_hostOf_22 : decode cX3_hostOf 22 = .ok (.iconst 1, 1) := by decide +kernel
theorem dX3_hostOf_23 : decode cX3_hostOf 23 = .ok (.invokevirtual 71, 3) := by decide +kernel
theorem dX3_hostOf_26 : decode cX3_hostOf 26 = .ok (.ireturn, 1) := by decide +kernel
theorem dX3_weighs_0 : decode cX3_weighs 0 = .ok (.aload_n 0, 1) := by decide +kernel
theorem dX3_weighs_1 : decode cX3_weighs 1 = .ok (.getfield 16, 3) := by decide +kernel
theorem dX3_weighs_4 : decode cX3_weighs 4 = .ok (.iconst 4, 1) := by decide +kernel
theorem dX3_weighs_5 : decode cX3_weighs 5 = .ok (.iload_n 1, 1) := by decide +kernel
theorem dX3_weighs_6 : decode cX3_weighs 6 = .ok (.imul, 1) := by decide +kernel
theorem dX3_weighs_7 : decode cX3_weighs 7 = .ok (.iload_n 2, 1) := by decide +kernel
theorem dX3_weighs_8 : decode cX3_weighs 8 = .ok (.iadd, 1) := by decide +kernel
theorem dX3_weighs_9 : decode cX3_weighs 9 = .ok (.iaload, 1) := by decide +kernel
theorem dX3_weighs_10 : decode cX3_weighs 10 = .ok (.ifCond .le 19, 3) := by decide +kernel
theorem dX3_weighs_13 : decode cX3_weighs 13 = .ok (.aload_n 0, 1) := by decide +kernel
theorem dX3_weighs_14 : decode cX3_weighs 14 = .ok (.getfield 7, 3) := by decide +kernel
theorem dX3_weighs_17 : decode cX3_weighs 17 = .ok (.iload_n 1, 1) := by decide +kernel
theorem dX3_weighs_18 : decode cX3_weighs 18 = .ok (.iaload, 1) := by decide +kernel
theorem dX3_weighs_19 : decode cX3_weighs 19 = .ok (.aload_n 0, 1) := by decide +kernel
theorem dX3_weighs_20 : decode cX3_weighs 20 = .ok (.getfield 22, 3) := by decide +kernel
theorem dX3_weighs_23 : decode cX3_weighs 23 = .ok (.iload_n 2, 1) := by decide +kernel
theorem dX3_weighs_24 : decode cX3_weighs 24 = .ok (.iaload, 1) := by decide +kernel
theorem dX3_weighs_25 : decode cX3_weighs 25 = .ok (.imul, 1) := by decide +kernel
theorem dX3_weighs_26 : decode cX3_weighs 26 = .ok (.goto 4, 3) := by decide +kernel
theorem dX3_weighs_29 : decode cX3_weighs 29 = .ok (.iconst 0, 1) := by decide +kernel
theorem dX3_weighs_30 : decode cX3_weighs 30 = .ok (.ireturn, 1) := by decide +kernel
set_option maxRecDepth 20000 in
theorem ggX3_weight_X3_isMachine : GoodIn wsX3_weight wsX3_isMachine := goodIn_r _ [5, 6, 7, 4, 8] (by decide +kernel) (by decide +kernel)
set_option maxRecDepth 20000 in
theorem gX3_weight_X3_isMachine : GoodIn wsX3_weight (va_wsS RX3 67 yX3_isMachine wsX3_isMachine) := goodIn_app (goodIn_of _ (by decide +kernel)) ggX3_weight_X3_isMachine
set_option maxRecDepth 20000 in
theorem ggX3_weight_X3_isProduct : GoodIn wsX3_weight wsX3_isProduct := goodIn_r _ [11, 6, 7, 4, 8] (by decide +kernel) (by decide +kernel)
set_option maxRecDepth 20000 in
theorem gX3_weight_X3_isProduct : GoodIn wsX3_weight (va_wsS RX3 82 yX3_isProduct wsX3_isProduct) := goodIn_app (goodIn_of _ (by decide +kernel)) ggX3_weight_X3_isProduct
set_option maxRecDepth 20000 in
theorem ggX3_weight_X3_weighs : GoodIn wsX3_weight wsX3_weighs := goodIn_r _ [15, 16, 17, 18, 23, 24, 25, 26, 27, 28, 29, 30, 31, 32, 33, 34, 35, 36, 37, 38, 39, 40, 41] (by decide +kernel) (by decide +kernel)
set_option maxRecDepth 20000 in
theorem gX3_weight_X3_weighs : GoodIn wsX3_weight (wsV RX3 95 RX3 yX3_weighs wsX3_weighs) := goodIn_app (goodIn_of _ (by decide +kernel)) ggX3_weight_X3_weighs
set_option maxRecDepth 20000 in
theorem ggX3_weight_X3_fails : GoodIn wsX3_weight wsX3_fails := goodIn_r _ [22, 1, 23, 24, 25, 26, 27, 28, 29, 30, 31, 32, 33, 34, 35, 36, 37, 38, 39, 40, 41] (by decide +kernel) (by decide +kernel)
set_option maxRecDepth 20000 in
theorem gX3_weight_X3_fails : GoodIn wsX3_weight (wsV RX3 71 RX3 yX3_fails wsX3_fails) := goodIn_app (goodIn_of _ (by decide +kernel)) ggX3_weight_X3_fails
theorem dX3_weight_0 : decode cX3_weight 0 = .ok (.aload_n 0, 1) := by decide +kernel
theorem dX3_weight_1 : decode cX3_weight 1 = .ok (.iconst 0, 1) := by decide +kernel
theorem dX3_weight_2 : decode cX3_weight 2 = .ok (.putfield 56, 3) := by decide +kernel
theorem dX3_weight_5 : decode cX3_weight 5 = .ok (.iload_n 1, 1) := by decide +kernel
theorem dX3_weight_6 : decode cX3_weight 6 = .ok (.invokestatic 67, 3) := by decide +kernel
theorem dX3_weight_9 : decode cX3_weight 9 = .ok (.ifCond .eq 19, 3) := by decide +kernel
theorem dX3_weight_12 : decode cX3_weight 12 = .ok (.iload_n 2, 1) := by decide +kernel
theorem dX3_weight_13 : decode cX3_weight 13 = .ok (.invokestatic 82, 3) := by decide +kernel
theorem dX3_weight_16 : decode cX3_weight 16 = .ok (.ifCond .eq 12, 3) := by decide +kernel
theorem dX3_weight_19 : decode cX3_weight 19 = .ok (.aload_n 0, 1) := by decide +kernel
theorem dX3_weight_20 : decode cX3_weight 20 = .ok (.iload_n 1, 1) := by decide +kernel
theorem dX3_weight_21 : decode cX3_weight 21 = .ok (.iload_n 2, 1) := by decide +kernel
theorem dX3_weight_22 : decode cX3_weight 22 = .ok (.invokevirtual 95, 3) := by decide +kernel
theorem dX3_weight_25 : decode cX3_weight 25 = .ok (.goto 8, 3) := by decide +kernel
theorem dX3_weight_28 : decode cX3_weight 28 = .ok (.aload_n 0, 1) := by decide +kernel
theorem dX3_weight_29 : decode cX3_weight 29 = .ok (.iconst 1, 1) := by decide +kernel
theorem dX3_weight_30 : decode cX3_weight 30 = .ok (.invokevirtual 71, 3) := by decide +kernel
theorem dX3_weight_33 : decode cX3_weight 33 = .ok (.ireturn, 1) := by decide +kernel
theorem dX3_covered_0 : decode cX3_covered 0 = .ok (.iconst 0, 1) := by decide +kernel
theorem dX3_covered_1 : decode cX3_covered 1 = .ok (.istore_n 3, 1) := by decide +kernel
theorem dX3_covered_2 : decode cX3_covered 2 = .ok (.iconst 0, 1) := by decide +kernel
theorem dX3_covered_3 : decode cX3_covered 3 = .ok (.istore 4, 2) := by decide +kernel
theorem dX3_covered_5 : decode cX3_covered 5 = .ok (.iload 4, 2) := by decide +kernel
theorem dX3_covered_7 : decode cX3_covered 7 = .ok (.bipush 8, 2) := by decide +kernel
theorem dX3_covered_9 : decode cX3_covered 9 = .ok (.if_icmp .ge 93, 3) := by decide +kernel
theorem dX3_covered_12 : decode cX3_covered 12 = .ok (.iload 4, 2) := by decide +kernel
theorem dX3_covered_14 : decode cX3_covered 14 = .ok (.iload_n 2, 1) := by decide +kernel
theorem dX3_covered_15 : decode cX3_covered 15 = .ok (.if_icmp .eq 24, 3) := by decide +kernel
theorem dX3_covered_18 : decode cX3_covered 18 = .ok (.aload_n 0, 1) := by decide +kernel
theorem dX3_covered_19 : decode cX3_covered 19 = .ok (.getfield 28, 3) := by decide +kernel
theorem dX3_covered_22 : decode cX3_covered 22 = .ok (.iload_n 1, 1) := by decide +kernel
theorem dX3_covered_23 : decode cX3_covered 23 = .ok (.iaload, 1) := by decide +kernel
theorem dX3_covered_24 : decode cX3_covered 24 = .ok (.iconst 1, 1) := by decide +kernel
theorem dX3_covered_25 : decode cX3_covered 25 = .ok (.if_icmp .ne 18, 3) := by decide +kernel
theorem dX3_covered_28 : decode cX3_covered 28 = .ok (.aload_n 0, 1) := by decide +kernel
theorem dX3_covered_29 : decode cX3_covered 29 = .ok (.getfield 13, 3) := by decide +kernel
theorem dX3_covered_32 : decode cX3_covered 32 = .ok (.iload 4, 2) := by decide +kernel
theorem dX3_covered_34 : decode cX3_covered 34 = .ok (.iaload, 1) := by decide +kernel
theorem dX3_covered_35 : decode cX3_covered 35 = .ok (.iload_n 2, 1) := by decide +kernel
theorem dX3_covered_36 : decode cX3_covered 36 = .ok (.if_icmp .ne 7, 3) := by decide +kernel
theorem dX3_covered_39 : decode cX3_covered 39 = .ok (.iconst 1, 1) := by decide +kernel
theorem dX3_covered_40 : decode cX3_covered 40 = .ok (.goto 4, 3) := by decide +kernel
theorem dX3_covered_43 : decode cX3_covered 43 = .ok (.iconst 0, 1) := by decide +kernel
theorem dX3_covered_44 : decode cX3_covered 44 = .ok (.istore 5, 2) := by decide +kernel
theorem dX3_covered_46 : decode cX3_covered 46 = .ok (.aload_n 0, 1) := by decide +kernel
theorem dX3_covered_47 : decode cX3_covered 47 = .ok (.getfield 16, 3) := by decide +kernel
theorem dX3_covered_50 : decode cX3_covered 50 = .ok (.iconst 4, 1) := by decide +kernel
theorem dX3_covered_51 : decode cX3_covered 51 = .ok (.iload 4, 2) := by decide +kernel
theorem dX3_covered_53 : decode cX3_covered 53 = .ok (.imul, 1) := by decide +kernel
theorem dX3_covered_54 : decode cX3_covered 54 = .ok (.aload_n 0, 1) := by decide +kernel
theorem dX3_covered_55 : decode cX3_covered 55 = .ok (.getfield 25, 3) := by decide +kernel
theorem dX3_covered_58 : decode cX3_covered 58 = .ok (.iload_n 1, 1) := by decide +kernel
theorem dX3_covered_59 : decode cX3_covered 59 = .ok (.iaload, 1) := by decide +kernel
theorem dX3_covered_60 : decode cX3_covered 60 = .ok (.iadd, 1) := by decide +kernel
theorem dX3_covered_61 : decode cX3_covered 61 = .ok (.iaload, 1) := by decide +kernel
theorem dX3_covered_62 : decode cX3_covered 62 = .ok (.istore 6, 2) := by decide +kernel
theorem dX3_covered_64 : decode cX3_covered 64 = .ok (.iload_n 3, 1) := by decide +kernel
theorem dX3_covered_65 : decode cX3_covered 65 = .ok (.iload 5, 2) := by decide +kernel
theorem dX3_covered_67 : decode cX3_covered 67 = .ok (.ifCond .eq 26, 3) := by decide +kernel
theorem dX3_covered_70 : decode cX3_covered 70 = .ok (.iload 6, 2) := by decide +kernel
theorem dX3_covered_72 : decode cX3_covered 72 = .ok (.ifCond .le 21, 3) := by decide +kernel
theorem dX3_covered_75 : decode cX3_covered 75 = .ok (.iload 6, 2) := by decide +kernel
theorem dX3_covered_77 : decode cX3_covered 77 = .ok (.aload_n 0, 1) := by decide +kernel
theorem dX3_covered_78 : decode cX3_covered 78 = .ok (.getfield 37, 3) := by decide +kernel
theorem dX3_covered_81 : decode cX3_covered 81 = .ok (.iload_n 1, 1) := by decide +kernel
theorem dX3_covered_82 : decode cX3_covered 82 = .ok (.iaload, 1) := by decide +kernel
theorem dX3_covered_83 : decode cX3_covered 83 = .ok (.if_icmp .gt 10, 3) := by decide +kernel
theorem dX3_covered_86 : decode cX3_covered 86 = .ok (.iconst 1, 1) := by decide +kernel
theorem dX3_covered_87 : decode cX3_covered 87 = .ok (.iload 4, 2) := by decide +kernel
theorem dX3_covered_89 : decode cX3_covered 89 = .ok (.ishl, 1) := by decide +kernel
theorem dX3_covered_90 : decode cX3_covered 90 = .ok (.goto 4, 3) := by decide +kernel
theorem dX3_covered_93 : decode cX3_covered 93 = .ok (.iconst 0, 1) := by decide +kernel
theorem dX3_covered_94 : decode cX3_covered 94 = .ok (.ior, 1) := by decide +kernel
theorem dX3_covered_95 : decode cX3_covered 95 = .ok (.istore_n 3, 1) := by decide +kernel
theorem dX3_covered_96 : decode cX3_covered 96 = .ok (.iinc 4 1, 3) := by decide +kernel
theorem dX3_covered_99 : decode cX3_covered 99 = .ok (.goto (-94), 3) := by decide +kernel
theorem dX3_covered_102 : decode cX3_covered 102 = .ok (.iload_n 3, 1) := by decide +kernel
theorem dX3_covered_103 : decode cX3_covered 103 = .ok (.ireturn, 1) := by decide +kernel
set_option maxRecDepth 20000 in
theorem ggX3_covers_X3_isRight : GoodIn wsX3_covers wsX3_isRight := goodIn_r _ [6, 7, 8, 9, 5, 10, 27, 28, 29, 30, 31, 32, 33, 34, 35, 36, 37, 38, 39, 40, 41, 42, 43, 44, 45] (by decide +kernel) (by decide +kernel)
set_option maxRecDepth 20000 in
theorem gX3_covers_X3_isRight : GoodIn wsX3_covers (wsV RX3 92 RX3 yX3_isRight wsX3_isRight) := goodIn_app (goodIn_of _ (by decide +kernel)) ggX3_covers_X3_isRight
set_option maxRecDepth 20000 in
theorem ggX3_covers_X3_isMachine : GoodIn wsX3_covers wsX3_isMachine := goodIn_r _ [13, 8, 9, 5, 10] (by decide +kernel) (by decide +kernel)
set_option maxRecDepth 20000 in
theorem gX3_covers_X3_isMachine : GoodIn wsX3_covers (va_wsS RX3 67 yX3_isMachine wsX3_isMachine) := goodIn_app (goodIn_of _ (by decide +kernel)) ggX3_covers_X3_isMachine
set_option maxRecDepth 20000 in
theorem ggX3_covers_X3_covered : GoodIn wsX3_covers wsX3_covered := goodIn_r _ [17, 18, 19, 20, 21, 22, 27, 28, 29, 30, 31, 32, 33, 34, 35, 36, 37, 38, 39, 40, 41, 42, 43, 44, 45] (by decide +kernel) (by decide +kernel)
set_option maxRecDepth 20000 in
theorem gX3_covers_X3_covered : GoodIn wsX3_covers (wsV RX3 98 RX3 yX3_covered wsX3_covered) := goodIn_app (goodIn_of _ (by decide +kernel)) ggX3_covers_X3_covered
set_option maxRecDepth 20000 in
theorem ggX3_covers_X3_fails : GoodIn wsX3_covers wsX3_fails := goodIn_r _ [26, 1, 27, 28, 29, 30, 31, 32, 33, 34, 35, 36, 37, 38, 39, 40, 41, 42, 43, 44, 45] (by decide +kernel) (by decide +kernel)
set_option maxRecDepth 20000 in
theorem gX3_covers_X3_fails : GoodIn wsX3_covers (wsV RX3 71 RX3 yX3_fails wsX3_fails) := goodIn_app (goodIn_of _ (by decide +kernel)) ggX3_covers_X3_fails
theorem dX3_covers_0 : decode cX3_covers 0 = .ok (.aload_n 0, 1) := by decide +kernel
theorem dX3_covers_1 : decode cX3_covers 1 = .ok (.iconst 0, 1) := by decide +kernel
theorem dX3_covers_2 : decode cX3_covers 2 = .ok (.putfield 56, 3) := by decide +kernel
theorem dX3_covers_5 : decode cX3_covers 5 = .ok (.aload_n 0, 1) := by decide +kernel
theorem dX3_covers_6 : decode cX3_covers 6 = .ok (.iload_n 1, 1) := by decide +kernel
theorem dX3_covers_7 : decode cX3_covers 7 = .ok (.invokevirtual 92, 3) := by decide +kernel
theorem dX3_covers_10 : decode cX3_covers 10 = .ok (.ifCond .eq 19, 3) := by decide +kernel
theorem dX3_covers_13 : decode cX3_covers 13 = .ok (.iload_n 2, 1) := by decide +kernel
theorem dX3_covers_14 : decode cX3_covers 14 = .ok (.invokestatic 67, 3) := by decide +kernel
theorem dX3_covers_17 : decode cX3_covers 17 = .ok (.ifCond .eq 12, 3) := by decide +kernel
theorem dX3_covers_20 : decode cX3_covers 20 = .ok (.aload_n 0, 1) := by decide +kernel
theorem dX3_covers_21 : decode cX3_covers 21 = .ok (.iload_n 1, 1) := by decide +kernel
theorem dX3_covers_22 : decode cX3_covers 22 = .ok (.iload_n 2, 1) := by decide +kernel
theorem dX3_covers_23 : decode cX3_covers 23 = .ok (.invokevirtual 98, 3) := by decide +kernel
theorem dX3_covers_26 : decode cX3_covers 26 = .ok (.goto 8, 3) := by decide +kernel
theorem dX3_covers_29 : decode cX3_covers 29 = .ok (.aload_n 0, 1) := by decide +kernel
theorem dX3_covers_30 : decode cX3_covers 30 = .ok (.iconst 1, 1) := by decide +kernel
theorem dX3_covers_31 : decode cX3_covers 31 = .ok (.invokevirtual 71, 3) := by decide +kernel
theorem dX3_covers_34 : decode cX3_covers 34 = .ok (.ireturn, 1) := by decide +kernel
set_option maxRecDepth 20000 in
theorem ggX3_spreads_X3_covered : GoodIn wsX3_spreads wsX3_covered := goodIn_r _ [9, 1, 10, 11, 12, 13, 14, 15, 16, 17, 18, 19, 20, 21, 22, 23, 24, 25, 26, 27, 28, 29, 30, 31, 32] (by decide +kernel) (by decide +kernel)
set_option maxRecDepth 20000 in
theorem gX3_spreads_X3_covered : GoodIn wsX3_spreads (wsV RX3 98 RX3 yX3_covered wsX3_covered) := goodIn_app (goodIn_of _ (by decide +kernel)) ggX3_spreads_X3_covered
theorem dX3_spreads_0 : decode cX3_spreads 0 = .ok (.iconst 1, 1) := by decide +kernel
theorem dX3_spreads_1 : decode cX3_spreads 1 = .ok (.istore_n 2, 1) := by decide +kernel
theorem dX3_spreads_2 : decode cX3_spreads 2 = .ok (.iload_n 2, 1) := by decide +kernel
theorem dX3_spreads_3 : decode cX3_spreads 3 = .ok (.sipush 256, 3) := by decide +kernel
theorem dX3_spreads_6 : decode cX3_spreads 6 = .ok (.if_icmp .ge 103, 3) := by decide +kernel
theorem dX3_spreads_9 : decode cX3_spreads 9 = .ok (.iconst 0, 1) := by decide +kernel
theorem dX3_spreads_10 : decode cX3_spreads 10 = .ok (.istore_n 3, 1) := by decide +kernel
theorem dX3_spreads_11 : decode cX3_spreads 11 = .ok (.iload_n 2, 1) := by decide +kernel
theorem dX3_spreads_12 : decode cX3_spreads 12 = .ok (.iload_n 3, 1) := by decide +kernel
theorem dX3_spreads_13 : decode cX3_spreads 13 = .ok (.ishr, 1) := by decide +kernel
theorem dX3_spreads_14 : decode cX3_spreads 14 = .ok (.iconst 1, 1) := by decide +kernel
theorem dX3_spreads_15 : decode cX3_spreads 15 = .ok (.iand, 1) := by decide +kernel
theorem dX3_spreads_16 : decode cX3_spreads 16 = .ok (.ifCond .ne 9, 3) := by decide +kernel
theorem dX3_spreads_19 : decode cX3_spreads 19 = .ok (.iinc 3 1, 3) := by decide +kernel
theorem dX3_spreads_22 : decode cX3_spreads 22 = .ok (.goto (-11), 3) := by decide +kernel
theorem dX3_spreads_25 : decode cX3_spreads 25 = .ok (.aload_n 0, 1) := by decide +kernel
theorem dX3_spreads_26 : decode cX3_spreads 26 = .ok (.getfield 28, 3) := by decide +kernel
theorem dX3_spreads_29 : decode cX3_spreads 29 = .ok (.iload_n 1, 1) := by decide +kernel
theorem dX3_spreads_30 : decode cX3_spreads 30 = .ok (.iaload, 1) := by decide +kernel
theorem dX3_spreads_31 : decode cX3_spreads 31 = .ok (.iconst 1, 1) := by decide +kernel
theorem dX3_spreads_32 : decode cX3_spreads 32 = .ok (.if_icmp .eq 7, 3) := by decide +kernel
theorem dX3_spreads_35 : decode cX3_spreads 35 = .ok (.iconst 1, 1) := by decide +kernel
theorem dX3_spreads_36 : decode cX3_spreads 36 = .ok (.goto 23, 3) := by decide +kernel
theorem dX3_spreads_39 : decode cX3_spreads 39 = .ok (.aload_n 0, 1) := by decide +kernel
theorem dX3_spreads_40 : decode cX3_spreads 40 = .ok (.getfield 7, 3) := by decide +kernel
theorem dX3_spreads_43 : decode cX3_spreads 43 = .ok (.iload_n 3, 1) := by decide +kernel
theorem dX3_spreads_44 : decode cX3_spreads 44 = .ok (.iaload, 1) := by decide +kernel
theorem dX3_spreads_45 : decode cX3_spreads 45 = .ok (.iconst 4, 1) := by decide +kernel
theorem dX3_spreads_46 : decode cX3_spreads 46 = .ok (.if_icmp .ge 7, 3) := by decide +kernel
theorem dX3_spreads_49 : decode cX3_spreads 49 = .ok (.iconst 4, 1) := by decide +kernel
theorem dX3_spreads_50 : decode cX3_spreads 50 = .ok (.goto 9, 3) := by decide +kernel
theorem dX3_spreads_53 : decode cX3_spreads 53 = .ok (.aload_n 0, 1) := by decide +kernel
theorem dX3_spreads_54 : decode cX3_spreads 54 = .ok (.getfield 7, 3) := by decide +kernel
theorem dX3_spreads_57 : decode cX3_spreads 57 = .ok (.iload_n 3, 1) := by decide +kernel
theorem dX3_spreads_58 : decode cX3_spreads 58 = .ok (.iaload, 1) := by decide +kernel
theorem dX3_spreads_59 : decode cX3_spreads 59 = .ok (.istore 4, 2) := by decide +kernel
theorem dX3_spreads_61 : decode cX3_spreads 61 = .ok (.aload_n 0, 1) := by decide +kernel
theorem dX3_spreads_62 : decode cX3_spreads 62 = .ok (.getfield 50, 3) := by decide +kernel
theorem dX3_spreads_65 : decode cX3_spreads 65 = .ok (.iload_n 2, 1) := by decide +kernel
theorem dX3_spreads_66 : decode cX3_spreads 66 = .ok (.aload_n 0, 1) := by decide +kernel
theorem dX3_spreads_67 : decode cX3_spreads 67 = .ok (.getfield 50, 3) := by decide +kernel
theorem dX3_spreads_70 : decode cX3_spreads 70 = .ok (.iload_n 2, 1) := by decide +kernel
theorem dX3_spreads_71 : decode cX3_spreads 71 = .ok (.iconst 1, 1) := by decide +kernel
theorem dX3_spreads_72 : decode cX3_spreads 72 = .ok (.iload_n 3, 1) := by decide +kernel
theorem dX3_spreads_73 : decode cX3_spreads 73 = .ok (.ishl, 1) := by decide +kernel
theorem dX3_spreads_74 : decode cX3_spreads 74 = .ok (.isub, 1) := by decide +kernel
theorem dX3_spreads_75 : decode cX3_spreads 75 = .ok (.iaload, 1) := by decide +kernel
theorem dX3_spreads_76 : decode cX3_spreads 76 = .ok (.iload 4, 2) := by decide +kernel
theorem dX3_spreads_78 : decode cX3_spreads 78 = .ok (.iadd, 1) := by decide +kernel
theorem dX3_spreads_79 : decode cX3_spreads 79 = .ok (.iastore, 1) := by decide +kernel
theorem dX3_spreads_80 : decode cX3_spreads 80 = .ok (.aload_n 0, 1) := by decide +kernel
theorem dX3_spreads_81 : decode cX3_spreads 81 = .ok (.getfield 53, 3) := by decide +kernel
theorem dX3_spreads_84 : decode cX3_spreads 84 = .ok (.iload_n 2, 1) := by decide +kernel
theorem dX3_spreads_85 : decode cX3_spreads 85 = .ok (.aload_n 0, 1) := by decide +kernel
theorem dX3_spreads_86 : decode cX3_spreads 86 = .ok (.getfield 53, 3) := by decide +kernel
theorem dX3_spreads_89 : decode cX3_spreads 89 = .ok (.iload_n 2, 1) := by decide +kernel
theorem dX3_spreads_90 : decode cX3_spreads 90 = .ok (.iconst 1, 1) := by decide +kernel
theorem dX3_spreads_91 : decode cX3_spreads 91 = .ok (.iload_n 3, 1) := by decide +kernel
theorem dX3_spreads_92 : decode cX3_spreads 92 = .ok (.ishl, 1) := by decide +kernel
theorem dX3_spreads_93 : decode cX3_spreads 93 = .ok (.isub, 1) := by decide +kernel
theorem dX3_spreads_94 : decode cX3_spreads 94 = .ok (.iaload, 1) := by decide +kernel
theorem dX3_spreads_95 : decode cX3_spreads 95 = .ok (.aload_n 0, 1) := by decide +kernel
theorem dX3_spreads_96 : decode cX3_spreads 96 = .ok (.iload_n 1, 1) := by decide +kernel
theorem dX3_spreads_97 : decode cX3_spreads 97 = .ok (.iload_n 3, 1) := by decide +kernel
theorem dX3_spreads_98 : decode cX3_spreads 98 = .ok (.invokevirtual 98, 3) := by decide +kernel
theorem dX3_spreads_101 : decode cX3_spreads 101 = .ok (.ior, 1) := by decide +kernel
theorem dX3_spreads_102 : decode cX3_spreads 102 = .ok (.iastore, 1) := by decide +kernel
theorem dX3_spreads_103 : decode cX3_spreads 103 = .ok (.iinc 2 1, 3) := by decide +kernel
theorem dX3_spreads_106 : decode cX3_spreads 106 = .ok (.goto (-104), 3) := by decide +kernel
theorem dX3_spreads_109 : decode cX3_spreads 109 = .ok (.return_, 1) := by decide +kernel
set_option maxRecDepth 20000 in
theorem ggX3_least_X3_spreads : GoodIn wsX3_least wsX3_spreads := goodIn_r _ [15, 16, 17, 7, 8, 18, 19, 20, 14, 21, 22, 9, 3, 23, 29, 30, 31, 32, 33, 34, 35, 36, 37, 38, 39, 40, 41, 42, 43, 44, 45, 46, 47] (by decide +kernel) (by decide +kernel)
set_option maxRecDepth 20000 in
theorem gX3_least_X3_spreads : GoodIn wsX3_least (wsV RX3 101 RX3 yX3_spreads wsX3_spreads) := goodIn_app (goodIn_of _ (by decide +kernel)) ggX3_least_X3_spreads
set_option maxRecDepth 20000 in
theorem ggX3_least_X3_weighs : GoodIn wsX3_least wsX3_weighs := goodIn_r _ [27, 9, 17, 28, 29, 30, 31, 32, 33, 34, 35, 36, 37, 38, 39, 40, 41, 42, 43, 44, 45, 46, 47] (by decide +kernel) (by decide +kernel)
set_option maxRecDepth 20000 in
theorem gX3_least_X3_weighs : GoodIn wsX3_least (wsV RX3 95 RX3 yX3_weighs wsX3_weighs) := goodIn_app (goodIn_of _ (by decide +kernel)) ggX3_least_X3_weighs
theorem dX3_least_0 : decode cX3_least 0 = .ok (.iconst 0, 1) := by decide +kernel
theorem dX3_least_1 : decode cX3_least 1 = .ok (.istore_n 2, 1) := by decide +kernel
theorem dX3_least_2 : decode cX3_least 2 = .ok (.iload_n 2, 1) := by decide +kernel
theorem dX3_least_3 : decode cX3_least 3 = .ok (.sipush 256, 3) := by decide +kernel
theorem dX3_least_6 : decode cX3_least 6 = .ok (.if_icmp .ge 24, 3) := by decide +kernel
theorem dX3_least_9 : decode cX3_least 9 = .ok (.aload_n 0, 1) := by decide +kernel
theorem dX3_least_10 : decode cX3_least 10 = .ok (.getfield 43, 3) := by decide +kernel
theorem dX3_least_13 : decode cX3_least 13 = .ok (.iload_n 2, 1) := by decide +kernel
theorem dX3_least_14 : decode cX3_least 14 = .ok (.iload_n 2, 1) := by decide +kernel
theorem dX3_least_15 : decode cX3_least 15 = .ok (.ifCond .ne 7, 3) := by decide +kernel
theorem dX3_least_18 : decode cX3_least 18 = .ok (.iconst 1, 1) := by decide +kernel
theorem dX3_least_19 : decode cX3_least 19 = .ok (.goto 4, 3) := by decide +kernel
theorem dX3_least_22 : decode cX3_least 22 = .ok (.iconst 0, 1) := by decide +kernel
theorem dX3_least_23 : decode cX3_least 23 = .ok (.bastore, 1) := by decide +kernel
theorem dX3_least_24 : decode cX3_least 24 = .ok (.iinc 2 1, 3) := by decide +kernel
theorem dX3_least_27 : decode cX3_least 27 = .ok (.goto (-25), 3) := by decide +kernel
theorem dX3_least_30 : decode cX3_least 30 = .ok (.iconst 0, 1) := by decide +kernel
theorem dX3_least_31 : decode cX3_least 31 = .ok (.istore_n 2, 1) := by decide +kernel
theorem dX3_least_32 : decode cX3_least 32 = .ok (.iload_n 2, 1) := by decide +kernel
theorem dX3_least_33 : decode cX3_least 33 = .ok (.aload_n 0, 1) := by decide +kernel
theorem dX3_least_34 : decode cX3_least 34 = .ok (.getfield 64, 3) := by decide +kernel
theorem dX3_least_37 : decode cX3_least 37 = .ok (.if_icmp .ge 150, 3) := by decide +kernel
theorem dX3_least_40 : decode cX3_least 40 = .ok (.aload_n 0, 1) := by decide +kernel
theorem dX3_least_41 : decode cX3_least 41 = .ok (.getfield 25, 3) := by decide +kernel
theorem dX3_least_44 : decode cX3_least 44 = .ok (.iload_n 2, 1) := by decide +kernel
theorem dX3_least_45 : decode cX3_least 45 = .ok (.iaload, 1) := by decide +kernel
theorem dX3_least_46 : decode cX3_least 46 = .ok (.iload_n 1, 1) := by decide +kernel
theorem dX3_least_47 : decode cX3_least 47 = .ok (.if_icmp .ne 134, 3) := by decide +kernel
theorem dX3_least_50 : decode cX3_least 50 = .ok (.aload_n 0, 1) := by decide +kernel
theorem dX3_least_51 : decode cX3_least 51 = .ok (.getfield 31, 3) := by decide +kernel
theorem dX3_least_54 : decode cX3_least 54 = .ok (.iload_n 2, 1) := by decide +kernel
theorem dX3_least_55 : decode cX3_least 55 = .ok (.iaload, 1) := by decide +kernel
theorem dX3_least_56 : decode cX3_least 56 = .ok (.ifCond .le 125, 3) := by decide +kernel
theorem dX3_least_59 : decode cX3_least 59 = .ok (.aload_n 0, 1) := by decide +kernel
theorem dX3_least_60 : decode cX3_least 60 = .ok (.iload_n 2, 1) := by decide +kernel
theorem dX3_least_61 : decode cX3_least 61 = .ok (.invokevirtual 101, 3) := by decide +kernel
theorem dX3_least_64 : decode cX3_least 64 = .ok (.iconst 0, 1) := by decide +kernel
theorem dX3_least_65 : decode cX3_least 65 = .ok (.istore_n 3, 1) := by decide +kernel
theorem dX3_least_66 : decode cX3_least 66 = .ok (.iload_n 3, 1) := by decide +kernel
theorem dX3_least_67 : decode cX3_least 67 = .ok (.sipush 256, 3) := by decide +kernel
theorem dX3_least_70 : decode cX3_least 70 = .ok (.if_icmp .ge 16, 3) := by decide +kernel
theorem dX3_least_73 : decode cX3_least 73 = .ok (.aload_n 0, 1) := by decide +kernel
theorem dX3_least_74 : decode cX3_least 74 = .ok (.getfield 47, 3) := by decide +kernel
theorem dX3_least_77 : decode cX3_least 77 = .ok (.iload_n 3, 1) := by decide +kernel
theorem dX3_least_78 : decode cX3_least 78 = .ok (.iconst 0, 1) := by decide +kernel
theorem dX3_least_79 : decode cX3_least 79 = .ok (.bastore, 1) := by decide +kernel
theorem dX3_least_80 : decode cX3_least 80 = .ok (.iinc 3 1, 3) := by decide +kernel
theorem dX3_least_83 : decode cX3_least 83 = .ok (.goto (-17), 3) := by decide +kernel
theorem dX3_least_86 : decode cX3_least 86 = .ok (.iconst 0, 1) := by decide +kernel
theorem dX3_least_87 : decode cX3_least 87 = .ok (.istore_n 3, 1) := by decide +kernel
theorem dX3_least_88 : decode cX3_least 88 = .ok (.iload_n 3, 1) := by decide +kernel
theorem dX3_least_89 : decode cX3_least 89 = .ok (.ldc 105, 2) := by decide +kernel
theorem dX3_least_91 : decode cX3_least 91 = .ok (.if_icmp .ge 63, 3) := by decide +kernel
theorem dX3_least_94 : decode cX3_least 94 = .ok (.aload_n 0, 1) := by decide +kernel
theorem dX3_least_95 : decode cX3_least 95 = .ok (.getfield 43, 3) := by decide +kernel
theorem dX3_least_98 : decode cX3_least 98 = .ok (.iload_n 3, 1) := by decide +kernel
theorem dX3_least_99 : decode cX3_least 99 = .ok (.sipush 256, 3) := by decide +kernel
theorem dX3_least_102 : decode cX3_least 102 = .ok (.idiv, 1) := by decide +kernel
theorem dX3_least_103 : decode cX3_least 103 = .ok (.baload, 1) := by decide +kernel
theorem dX3_least_104 : decode cX3_least 104 = .ok (.ifCond .eq 44, 3) := by decide +kernel
theorem dX3_least_107 : decode cX3_least 107 = .ok (.aload_n 0, 1) := by decide +kernel
theorem dX3_least_108 : decode cX3_least 108 = .ok (.getfield 50, 3) := by decide +kernel
theorem dX3_least_111 : decode cX3_least 111 = .ok (.iload_n 3, 1) := by decide +kernel
theorem dX3_least_112 : decode cX3_least 112 = .ok (.sipush 256, 3) := by decide +kernel
theorem dX3_least_115 : decode cX3_least 115 = .ok (.irem, 1) := by decide +kernel
theorem dX3_least_116 : decode cX3_least 116 = .ok (.iaload, 1) := by decide +kernel
theorem dX3_least_117 : decode cX3_least 117 = .ok (.aload_n 0, 1) := by decide +kernel
theorem dX3_least_118 : decode cX3_least 118 = .ok (.getfield 31, 3) := by decide +kernel
theorem dX3_least_121 : decode cX3_least 121 = .ok (.iload_n 2, 1) := by decide +kernel
theorem dX3_least_122 : decode cX3_least 122 = .ok (.iaload, 1) := by decide +kernel
theorem dX3_least_123 : decode cX3_least 123 = .ok (.if_icmp .gt 25, 3) := by decide +kernel
theorem dX3_least_126 : decode cX3_least 126 = .ok (.aload_n 0, 1) := by decide +kernel
theorem dX3_least_127 : decode cX3_least 127 = .ok (.getfield 47, 3) := by decide +kernel
theorem dX3_least_130 : decode cX3_least 130 = .ok (.iload_n 3, 1) := by decide +kernel
theorem dX3_least_131 : decode cX3_least 131 = .ok (.sipush 256, 3) := by decide +kernel
theorem dX3_least_134 : decode cX3_least 134 = .ok (.idiv, 1) := by decide +kernel
theorem dX3_least_135 : decode cX3_least 135 = .ok (.aload_n 0, 1) := by decide +kernel
theorem dX3_least_136 : decode cX3_least 136 = .ok (.getfield 53, 3) := by decide +kernel
theorem dX3_least_139 : decode cX3_least 139 = .ok (.iload_n 3, 1) := by decide +kernel
theorem dX3_least_140 : decode cX3_least 140 = .ok (.sipush 256, 3) := by decide +kernel
theorem dX3_least_143 : decode cX3_least 143 = .ok (.irem, 1) := by decide +kernel
theorem dX3_least_144 : decode cX3_least 144 = .ok (.iaload, 1) := by decide +kernel
theorem dX3_least_145 : decode cX3_least 145 = .ok (.ior, 1) := by decide +kernel
theorem dX3_least_146 : decode cX3_least 146 = .ok (.iconst 1, 1) := by decide +kernel
theorem dX3_least_147 : decode cX3_least 147 = .ok (.bastore, 1) := by decide +kernel
theorem dX3_least_148 : decode cX3_least 148 = .ok (.iinc 3 1, 3) := by decide +kernel
theorem dX3_least_151 : decode cX3_least 151 = .ok (.goto (-63), 3) := by decide +kernel
theorem dX3_least_154 : decode cX3_least 154 = .ok (.iconst 0, 1) := by decide +kernel
theorem dX3_least_155 : decode cX3_least 155 = .ok (.istore_n 3, 1) := by decide +kernel
theorem dX3_least_156 : decode cX3_least 156 = .ok (.iload_n 3, 1) := by decide +kernel
theorem dX3_least_157 : decode cX3_least 157 = .ok (.sipush 256, 3) := by decide +kernel
theorem dX3_least_160 : decode cX3_least 160 = .ok (.if_icmp .ge 21, 3) := by decide +kernel
theorem dX3_least_163 : decode cX3_least 163 = .ok (.aload_n 0, 1) := by decide +kernel
theorem dX3_least_164 : decode cX3_least 164 = .ok (.getfield 43, 3) := by decide +kernel
theorem dX3_least_167 : decode cX3_least 167 = .ok (.iload_n 3, 1) := by decide +kernel
theorem dX3_least_168 : decode cX3_least 168 = .ok (.aload_n 0, 1) := by decide +kernel
theorem dX3_least_169 : decode cX3_least 169 = .ok (.getfield 47, 3) := by decide +kernel
theorem dX3_least_172 : decode cX3_least 172 = .ok (.iload_n 3, 1) := by decide +kernel
theorem dX3_least_173 : decode cX3_least 173 = .ok (.baload, 1) := by decide +kernel
theorem dX3_least_174 : decode cX3_least 174 = .ok (.bastore, 1) := by decide +kernel
theorem dX3_least_175 : decode cX3_least 175 = .ok (.iinc 3 1, 3) := by decide +kernel
theorem dX3_least_178 : decode cX3_least 178 = .ok (.goto (-22), 3) := by decide +kernel
theorem dX3_least_181 : decode cX3_least 181 = .ok (.iinc 2 1, 3) := by decide +kernel
theorem dX3_least_184 : decode cX3_least 184 = .ok (.goto (-152), 3) := by decide +kernel
theorem dX3_least_187 : decode cX3_least 187 = .ok (.iconst 0, 1) := by decide +kernel
theorem dX3_least_188 : decode cX3_least 188 = .ok (.istore_n 2, 1) := by decide +kernel
theorem dX3_least_189 : decode cX3_least 189 = .ok (.iconst 0, 1) := by decide +kernel
theorem dX3_least_190 : decode cX3_least 190 = .ok (.istore_n 3, 1) := by decide +kernel
theorem dX3_least_191 : decode cX3_least 191 = .ok (.iload_n 3, 1) := by decide +kernel
theorem dX3_least_192 : decode cX3_least 192 = .ok (.bipush 8, 2) := by decide +kernel
theorem dX3_least_194 : decode cX3_least 194 = .ok (.if_icmp .ge 32, 3) := by decide +kernel
theorem dX3_least_197 : decode cX3_least 197 = .ok (.iload_n 2, 1) := by decide +kernel
theorem dX3_least_198 : decode cX3_least 198 = .ok (.aload_n 0, 1) := by decide +kernel
theorem dX3_least_199 : decode cX3_least 199 = .ok (.getfield 16, 3) := by decide +kernel
theorem dX3_least_202 : decode cX3_least 202 = .ok (.iconst 4, 1) := by decide +kernel
theorem dX3_least_203 : decode cX3_least 203 = .ok (.iload_n 3, 1) := by decide +kernel
theorem dX3_least_204 : decode cX3_least 204 = .ok (.imul, 1) := by decide +kernel
theorem dX3_least_205 : decode cX3_least 205 = .ok (.iload_n 1, 1) := by decide +kernel
theorem dX3_least_206 : decode cX3_least 206 = .ok (.iadd, 1) := by decide +kernel
theorem dX3_least_207 : decode cX3_least 207 = .ok (.iaload, 1) := by decide +kernel
theorem dX3_least_208 : decode cX3_least 208 = .ok (.ifCond .le 9, 3) := by decide +kernel
theorem dX3_least_211 : decode cX3_least 211 = .ok (.iconst 1, 1) := by decide +kernel
theorem dX3_least_212 : decode cX3_least 212 = .ok (.iload_n 3, 1) := by decide +kernel
theorem dX3_least_213 : decode cX3_least 213 = .ok (.ishl, 1) := by decide +kernel
theorem dX3_least_214 : decode cX3_least 214 = .ok (.goto 4, 3) := by decide +kernel
theorem dX3_least_217 : decode cX3_least 217 = .ok (.iconst 0, 1) := by decide +kernel
theorem dX3_least_218 : decode cX3_least 218 = .ok (.ior, 1) := by decide +kernel
theorem dX3_least_219 : decode cX3_least 219 = .ok (.istore_n 2, 1) := by decide +kernel
theorem dX3_least_220 : decode cX3_least 220 = .ok (.iinc 3 1, 3) := by decide +kernel
theorem dX3_least_223 : decode cX3_least 223 = .ok (.goto (-32), 3) := by decide +kernel
theorem dX3_least_226 : decode cX3_least 226 = .ok (.iconst (-1), 1) := by decide +kernel
theorem dX3_least_227 : decode cX3_least 227 = .ok (.istore_n 3, 1) := by decide +kernel
theorem dX3_least_228 : decode cX3_least 228 = .ok (.iconst 0, 1) := by decide +kernel
theorem dX3_least_229 : decode cX3_least 229 = .ok (.istore 4, 2) := by decide +kernel
theorem dX3_least_231 : decode cX3_least 231 = .ok (.iload 4, 2) := by decide +kernel
theorem dX3_least_233 : decode cX3_least 233 = .ok (.sipush 256, 3) := by decide +kernel
theorem dX3_least_236 : decode cX3_least 236 = .ok (.if_icmp .ge 136, 3) := by decide +kernel
theorem dX3_least_239 : decode cX3_least 239 = .ok (.iload_n 2, 1) := by decide +kernel
theorem dX3_least_240 : decode cX3_least 240 = .ok (.iload 4, 2) := by decide +kernel
theorem dX3_least_242 : decode cX3_least 242 = .ok (.iconst (-1), 1) := by decide +kernel
theorem dX3_least_243 : decode cX3_least 243 = .ok (.ixor, 1) := by decide +kernel
theorem dX3_least_244 : decode cX3_least 244 = .ok (.iand, 1) := by decide +kernel
theorem dX3_least_245 : decode cX3_least 245 = .ok (.istore 5, 2) := by decide +kernel
theorem dX3_least_247 : decode cX3_least 247 = .ok (.iconst 0, 1) := by decide +kernel
theorem dX3_least_248 : decode cX3_least 248 = .ok (.istore 6, 2) := by decide +kernel
theorem dX3_least_250 : decode cX3_least 250 = .ok (.iconst 0, 1) := by decide +kernel
theorem dX3_least_251 : decode cX3_least 251 = .ok (.istore 7, 2) := by decide +kernel
theorem dX3_least_253 : decode cX3_least 253 = .ok (.iload 7, 2) := by decide +kernel
theorem dX3_least_255 : decode cX3_least 255 = .ok (.bipush 8, 2) := by decide +kernel
theorem dX3_least_257 : decode cX3_least 257 = .ok (.if_icmp .ge 36, 3) := by decide +kernel
theorem dX3_least_260 : decode cX3_least 260 = .ok (.iload 6, 2) := by decide +kernel
theorem dX3_least_262 : decode cX3_least 262 = .ok (.iload 5, 2) := by decide +kernel
theorem dX3_least_264 : decode cX3_least 264 = .ok (.iload 7, 2) := by decide +kernel
theorem dX3_least_266 : decode cX3_least 266 = .ok (.ishr, 1) := by decide +kernel
theorem dX3_least_267 : decode cX3_least 267 = .ok (.iconst 1, 1) := by decide +kernel
theorem dX3_least_268 : decode cX3_least 268 = .ok (.iand, 1) := by decide +kernel
theorem dX3_least_269 : decode cX3_least 269 = .ok (.iconst 1, 1) := by decide +kernel
theorem dX3_least_270 : decode cX3_least 270 = .ok (.if_icmp .ne 13, 3) := by decide +kernel
theorem dX3_least_273 : decode cX3_least 273 = .ok (.aload_n 0, 1) := by decide +kernel
theorem dX3_least_274 : decode cX3_least 274 = .ok (.iload 7, 2) := by decide +kernel
theorem dX3_least_276 : decode cX3_least 276 = .ok (.iload_n 1, 1) := by decide +kernel
theorem dX3_least_277 : decode cX3_least 277 = .ok (.invokevirtual 95, 3) := by decide +kernel
theorem dX3_least_280 : decode cX3_least 280 = .ok (.goto 4, 3) := by decide +kernel
theorem dX3_least_283 : decode cX3_least 283 = .ok (.iconst 0, 1) := by decide +kernel
theorem dX3_least_284 : decode cX3_least 284 = .ok (.iadd, 1) := by decide +kernel
theorem dX3_least_285 : decode cX3_least 285 = .ok (.istore 6, 2) := by decide +kernel
theorem dX3_least_287 : decode cX3_least 287 = .ok (.iinc 7 1, 3) := by decide +kernel
theorem dX3_least_290 : decode cX3_least 290 = .ok (.goto (-37), 3) := by decide +kernel
theorem dX3_least_293 : decode cX3_least 293 = .ok (.aload_n 0, 1) := by decide +kernel
theorem dX3_least_294 : decode cX3_least 294 = .ok (.getfield 43, 3) := by decide +kernel
theorem dX3_least_297 : decode cX3_least 297 = .ok (.iload 4, 2) := by decide +kernel
theorem dX3_least_299 : decode cX3_least 299 = .ok (.baload, 1) := by decide +kernel
theorem dX3_least_300 : decode cX3_least 300 = .ok (.ifCond .eq 33, 3) := by decide +kernel
theorem dX3_least_303 : decode cX3_least 303 = .ok (.iload_n 3, 1) := by decide +kernel
theorem dX3_least_304 : decode cX3_least 304 = .ok (.iconst (-1), 1) := by decide +kernel
theorem dX3_least_305 : decode cX3_least 305 = .ok (.if_icmp .eq 24, 3) := by decide +kernel
theorem dX3_least_308 : decode cX3_least 308 = .ok (.iload 6, 2) := by decide +kernel
theorem dX3_least_310 : decode cX3_least 310 = .ok (.iload_n 3, 1) := by decide +kernel
theorem dX3_least_311 : decode cX3_least 311 = .ok (.if_icmp .lt 18, 3) := by decide +kernel
theorem dX3_least_314 : decode cX3_least 314 = .ok (.iload 6, 2) := by decide +kernel
theorem dX3_least_316 : decode cX3_least 316 = .ok (.iload_n 3, 1) := by decide +kernel
theorem dX3_least_317 : decode cX3_least 317 = .ok (.if_icmp .ne 16, 3) := by decide +kernel
theorem dX3_least_320 : decode cX3_least 320 = .ok (.iload 5, 2) := by decide +kernel
theorem dX3_least_322 : decode cX3_least 322 = .ok (.aload_n 0, 1) := by decide +kernel
theorem dX3_least_323 : decode cX3_least 323 = .ok (.getfield 106, 3) := by decide +kernel
theorem dX3_least_326 : decode cX3_least 326 = .ok (.if_icmp .ge 7, 3) := by decide +kernel
theorem dX3_least_329 : decode cX3_least 329 = .ok (.iconst 1, 1) := by decide +kernel
theorem dX3_least_330 : decode cX3_least 330 = .ok (.goto 4, 3) := by decide +kernel
theorem dX3_least_333 : decode cX3_least 333 = .ok (.iconst 0, 1) := by decide +kernel
theorem dX3_least_334 : decode cX3_least 334 = .ok (.istore 7, 2) := by decide +kernel
theorem dX3_least_336 : decode cX3_least 336 = .ok (.iload 7, 2) := by decide +kernel
theorem dX3_least_338 : decode cX3_least 338 = .ok (.ifCond .eq 8, 3) := by decide +kernel
theorem dX3_least_341 : decode cX3_least 341 = .ok (.iload 6, 2) := by decide +kernel
theorem dX3_least_343 : decode cX3_least 343 = .ok (.goto 4, 3) := by decide +kernel
theorem dX3_least_346 : decode cX3_least 346 = .ok (.iload_n 3, 1) := by decide +kernel
theorem dX3_least_347 : decode cX3_least 347 = .ok (.istore_n 3, 1) := by decide +kernel
theorem dX3_least_348 : decode cX3_least 348 = .ok (.aload_n 0, 1) := by decide +kernel
theorem dX3_least_349 : decode cX3_least 349 = .ok (.iload 7, 2) := by decide +kernel
theorem dX3_least_351 : decode cX3_least 351 = .ok (.ifCond .eq 8, 3) := by decide +kernel
theorem dX3_least_354 : decode cX3_least 354 = .ok (.iload 5, 2) := by decide +kernel
theorem dX3_least_356 : decode cX3_least 356 = .ok (.goto 7, 3) := by decide +kernel
theorem dX3_least_359 : decode cX3_least 359 = .ok (.aload_n 0, 1) := by decide +kernel
theorem dX3_least_360 : decode cX3_least 360 = .ok (.getfield 106, 3) := by decide +kernel
theorem dX3_least_363 : decode cX3_least 363 = .ok (.putfield 106, 3) := by decide +kernel
theorem dX3_least_366 : decode cX3_least 366 = .ok (.iinc 4 1, 3) := by decide +kernel
theorem dX3_least_369 : decode cX3_least 369 = .ok (.goto (-138), 3) := by decide +kernel
theorem dX3_least_372 : decode cX3_least 372 = .ok (.iload_n 3, 1) := by decide +kernel
theorem dX3_least_373 : decode cX3_least 373 = .ok (.ireturn, 1) := by decide +kernel
set_option maxRecDepth 20000 in
theorem ggX3_gap_X3_isProduct : GoodIn wsX3_gap wsX3_isProduct := goodIn_r _ [5, 6, 7, 4, 8] (by decide +kernel) (by decide +kernel)
set_option maxRecDepth 20000 in
theorem gX3_gap_X3_isProduct : GoodIn wsX3_gap (va_wsS RX3 82 yX3_isProduct wsX3_isProduct) := goodIn_app (goodIn_of _ (by decide +kernel)) ggX3_gap_X3_isProduct
set_option maxRecDepth 20000 in
theorem ggX3_gap_X3_least : GoodIn wsX3_gap wsX3_least := goodIn_r _ [12, 13, 14, 15, 16, 17, 18, 19, 20, 21, 22, 23, 24, 25, 4, 26, 27, 28, 29, 30, 31, 32, 33, 34, 35, 36, 37, 38, 39, 44, 45, 46, 47, 48, 49, 50, 51, 52, 53, 54, 55, 56, 57, 58, 59, 60, 61, 62] (by decide +kernel) (by decide +kernel)
set_option maxRecDepth 20000 in
theorem gX3_gap_X3_least : GoodIn wsX3_gap (wsV RX3 109 RX3 yX3_least wsX3_least) := goodIn_app (goodIn_of _ (by decide +kernel)) ggX3_gap_X3_least
set_option maxRecDepth 20000 in
theorem ggX3_gap_X3_fails : GoodIn wsX3_gap wsX3_fails := goodIn_r _ [43, 1, 44, 45, 46, 47, 48, 49, 50, 51, 52, 53, 54, 55, 56, 57, 58, 59, 60, 61, 62] (by decide +kernel) (by decide +kernel)
set_option maxRecDepth 20000 in
theorem gX3_gap_X3_fails : GoodIn wsX3_gap (wsV RX3 71 RX3 yX3_fails wsX3_fails) := goodIn_app (goodIn_of _ (by decide +kernel)) ggX3_gap_X3_fails
theorem dX3_gap_0 : decode cX3_gap 0 = .ok (.aload_n 0, 1) := by decide +kernel
theorem dX3_gap_1 : decode cX3_gap 1 = .ok (.iconst 0, 1) := by decide +kernel
theorem dX3_gap_2 : decode cX3_gap 2 = .ok (.putfield 56, 3) := by decide +kernel
theorem dX3_gap_5 : decode cX3_gap 5 = .ok (.iload_n 1, 1) := by decide +kernel
theorem dX3_gap_6 : decode cX3_gap 6 = .ok (.invokestatic 82, 3) := by decide +kernel
theorem dX3_gap_9 : decode cX3_gap 9 = .ok (.ifCond .eq 11, 3) := by decide +kernel
theorem dX3_gap_12 : decode cX3_gap 12 = .ok (.aload_n 0, 1) := by decide +kernel
theorem dX3_gap_13 : decode cX3_gap 13 = .ok (.iload_n 1, 1) := by decide +kernel
theorem dX3_gap_14 : decode cX3_gap 14 = .ok (.invokevirtual 109, 3) := by decide +kernel
theorem dX3_gap_17 : decode cX3_gap 17 = .ok (.goto 8, 3) := by decide +kernel
theorem dX3_gap_20 : decode cX3_gap 20 = .ok (.aload_n 0, 1) := by decide +kernel
theorem dX3_gap_21 : decode cX3_gap 21 = .ok (.iconst 1, 1) := by decide +kernel
theorem dX3_gap_22 : decode cX3_gap 22 = .ok (.invokevirtual 71, 3) := by decide +kernel
theorem dX3_gap_25 : decode cX3_gap 25 = .ok (.ireturn, 1) := by decide +kernel
set_option maxRecDepth 20000 in
theorem ggX3_uncovered_X3_isProduct : GoodIn wsX3_uncovered wsX3_isProduct := goodIn_r _ [6, 7, 8, 5, 9] (by decide +kernel) (by decide +kernel)
set_option maxRecDepth 20000 in
theorem gX3_uncovered_X3_isProduct : GoodIn wsX3_uncovered (va_wsS RX3 82 yX3_isProduct wsX3_isProduct) := goodIn_app (goodIn_of _ (by decide +kernel)) ggX3_uncovered_X3_isProduct
set_option maxRecDepth 20000 in
theorem ggX3_uncovered_X3_fails : GoodIn wsX3_uncovered wsX3_fails := goodIn_r _ [13, 1, 44, 45, 46, 47, 48, 49, 50, 51, 52, 53, 54, 55, 56, 57, 58, 59, 60, 61, 62] (by decide +kernel) (by decide +kernel)
set_option maxRecDepth 20000 in
theorem gX3_uncovered_X3_fails : GoodIn wsX3_uncovered (wsV RX3 71 RX3 yX3_fails wsX3_fails) := goodIn_app (goodIn_of _ (by decide +kernel)) ggX3_uncovered_X3_fails
set_option maxRecDepth 20000 in
theorem ggX3_uncovered_X3_least : GoodIn wsX3_uncovered wsX3_least := goodIn_r _ [17, 18, 19, 20, 21, 22, 23, 24, 25, 26, 2, 27, 28, 29, 5, 30, 31, 32, 33, 34, 35, 36, 37, 38, 39, 40, 41, 42, 43, 44, 45, 46, 47, 48, 49, 50, 51, 52, 53, 54, 55, 56, 57, 58, 59, 60, 61, 62] (by decide +kernel) (by decide +kernel)
set_option maxRecDepth 20000 in
theorem gX3_uncovered_X3_least : GoodIn wsX3_uncovered (wsV RX3 109 RX3 yX3_least wsX3_least) := goodIn_app (goodIn_of _ (by decide +kernel)) ggX3_uncovered_X3_least
theorem dX3_uncovered_0 : decode cX3_uncovered 0 = .ok (.aload_n 0, 1) := by decide +kernel
theorem dX3_uncovered_1 : decode cX3_uncovered 1 = .ok (.iconst 0, 1) := by decide +kernel
theorem dX3_uncovered_2 : decode cX3_uncovered 2 = .ok (.putfield 56, 3) := by decide +kernel
theorem dX3_uncovered_5 : decode cX3_uncovered 5 = .ok (.iload_n 1, 1) := by decide +kernel
theorem dX3_uncovered_6 : decode cX3_uncovered 6 = .ok (.invokestatic 82, 3) := by decide +kernel
theorem dX3_uncovered_9 : decode cX3_uncovered 9 = .ok (.ifCond .ne 9, 3) := by decide +kernel
theorem dX3_uncovered_12 : decode cX3_uncovered 12 = .ok (.aload_n 0, 1) := by decide +kernel
theorem dX3_uncovered_13 : decode cX3_uncovered 13 = .ok (.iconst 1, 1) := by decide +kernel
theorem dX3_uncovered_14 : decode cX3_uncovered 14 = .ok (.invokevirtual 71, 3) := by decide +kernel
theorem dX3_uncovered_17 : decode cX3_uncovered 17 = .ok (.ireturn, 1) := by decide +kernel
theorem dX3_uncovered_18 : decode cX3_uncovered 18 = .ok (.aload_n 0, 1) := by decide +kernel
theorem dX3_uncovered_19 : decode cX3_uncovered 19 = .ok (.iload_n 1, 1) := by decide +kernel
theorem dX3_uncovered_20 : decode cX3_uncovered 20 = .ok (.invokevirtual 109, 3) := by decide +kernel
theorem dX3_uncovered_23 : decode cX3_uncovered 23 = .ok (.istore_n 2, 1) := by decide +kernel
theorem dX3_uncovered_24 : decode cX3_uncovered 24 = .ok (.aload_n 0, 1) := by decide +kernel
theorem dX3_uncovered_25 : decode cX3_uncovered 25 = .ok (.getfield 106, 3) := by decide +kernel
theorem dX3_uncovered_28 : decode cX3_uncovered 28 = .ok (.ireturn, 1) := by decide +kernel
set_option maxRecDepth 20000 in
theorem ggX3_gapByAll_X3_isProduct : GoodIn wsX3_gapByAll wsX3_isProduct := goodIn_r _ [8, 9, 10, 7, 11] (by decide +kernel) (by decide +kernel)
set_option maxRecDepth 20000 in
theorem gX3_gapByAll_X3_isProduct : GoodIn wsX3_gapByAll (va_wsS RX3 82 yX3_isProduct wsX3_isProduct) := goodIn_app (goodIn_of _ (by decide +kernel)) ggX3_gapByAll_X3_isProduct
set_option maxRecDepth 20000 in
theorem ggX3_gapByAll_X3_fails : GoodIn wsX3_gapByAll wsX3_fails := goodIn_r _ [15, 1, 44, 45, 46, 47, 48, 49, 50, 51, 52, 53, 54, 55, 56, 57, 58, 59, 60, 61, 62] (by decide +kernel) (by decide +kernel)
set_option maxRecDepth 20000 in
theorem gX3_gapByAll_X3_fails : GoodIn wsX3_gapByAll (wsV RX3 71 RX3 yX3_fails wsX3_fails) := goodIn_app (goodIn_of _ (by decide +kernel)) ggX3_gapByAll_X3_fails
set_option maxRecDepth 20000 in
theorem ggX3_gapByAll_X3_least : GoodIn wsX3_gapByAll wsX3_least := goodIn_r _ [19, 20, 2, 3, 4, 21, 22, 23, 24, 25, 26, 27, 28, 29, 7, 30, 31, 32, 33, 34, 35, 36, 37, 38, 39, 40, 41, 42, 43, 44, 45, 46, 47, 48, 49, 50, 51, 52, 53, 54, 55, 56, 57, 58, 59, 60, 61, 62] (by decide +kernel) (by decide +kernel)
set_option maxRecDepth 20000 in
theorem gX3_gapByAll_X3_least : GoodIn wsX3_gapByAll (wsV RX3 109 RX3 yX3_least wsX3_least) := goodIn_app (goodIn_of _ (by decide +kernel)) ggX3_gapByAll_X3_least
theorem dX3_gapByAll_0 : decode cX3_gapByAll 0 = .ok (.aload_n 0, 1) := by decide +kernel
theorem dX3_gapByAll_1 : decode cX3_gapByAll 1 = .ok (.iconst 0, 1) := by decide +kernel
theorem dX3_gapByAll_2 : decode cX3_gapByAll 2 = .ok (.putfield 56, 3) := by decide +kernel
theorem dX3_gapByAll_5 : decode cX3_gapByAll 5 = .ok (.iload_n 1, 1) := by decide +kernel
theorem dX3_gapByAll_6 : decode cX3_gapByAll 6 = .ok (.invokestatic 82, 3) := by decide +kernel
theorem dX3_gapByAll_9 : decode cX3_gapByAll 9 = .ok (.ifCond .ne 9, 3) := by decide +kernel
theorem dX3_gapByAll_12 : decode cX3_gapByAll 12 = .ok (.aload_n 0, 1) := by decide +kernel
theorem dX3_gapByAll_13 : decode cX3_gapByAll 13 = .ok (.iconst 1, 1) := by decide +kernel
theorem dX3_gapByAll_14 : decode cX3_gapByAll 14 = .ok (.invokevirtual 71, 3) := by decide +kernel
theorem dX3_gapByAll_17 : decode cX3_gapByAll 17 = .ok (.ireturn, 1) := by decide +kernel
theorem dX3_gapByAll_18 : decode cX3_gapByAll 18 = .ok (.iconst 0, 1) := by decide +kernel
theorem dX3_gapByAll_19 : decode cX3_gapByAll 19 = .ok (.istore_n 2, 1) := by decide +kernel
theorem dX3_gapByAll_20 : decode cX3_gapByAll 20 = .ok (.iconst 0, 1) := by decide +kernel
theorem dX3_gapByAll_21 : decode cX3_gapByAll 21 = .ok (.istore_n 3, 1) := by decide +kernel
theorem dX3_gapByAll_22 : decode cX3_gapByAll 22 = .ok (.iload_n 3, 1) := by decide +kernel
theorem dX3_gapByAll_23 : decode cX3_gapByAll 23 = .ok (.aload_n 0, 1) := by decide +kernel
theorem dX3_gapByAll_24 : decode cX3_gapByAll 24 = .ok (.getfield 64, 3) := by decide +kernel
theorem dX3_gapByAll_27 : decode cX3_gapByAll 27 = .ok (.if_icmp .ge 36, 3) := by decide +kernel
theorem dX3_gapByAll_30 : decode cX3_gapByAll 30 = .ok (.iload_n 2, 1) := by decide +kernel
theorem dX3_gapByAll_31 : decode cX3_gapByAll 31 = .ok (.aload_n 0, 1) := by decide +kernel
theorem dX3_gapByAll_32 : decode cX3_gapByAll 32 = .ok (.getfield 25, 3) := by decide +kernel
theorem dX3_gapByAll_35 : decode cX3_gapByAll 35 = .ok (.iload_n 3, 1) := by decide +kernel
theorem dX3_gapByAll_36 : decode cX3_gapByAll 36 = .ok (.iaload, 1) := by decide +kernel
theorem dX3_gapByAll_37 : decode cX3_gapByAll 37 = .ok (.iload_n 1, 1) := by decide +kernel
theorem dX3_gapByAll_38 : decode cX3_gapByAll 38 = .ok (.if_icmp .ne 16, 3) := by decide +kernel
theorem dX3_gapByAll_41 : decode cX3_gapByAll 41 = .ok (.aload_n 0, 1) := by decide +kernel
theorem dX3_gapByAll_42 : decode cX3_gapByAll 42 = .ok (.getfield 31, 3) := by decide +kernel
theorem dX3_gapByAll_45 : decode cX3_gapByAll 45 = .ok (.iload_n 3, 1) := by decide +kernel
theorem dX3_gapByAll_46 : decode cX3_gapByAll 46 = .ok (.iaload, 1) := by decide +kernel
theorem dX3_gapByAll_47 : decode cX3_gapByAll 47 = .ok (.ifCond .le 7, 3) := by decide +kernel
theorem dX3_gapByAll_50 : decode cX3_gapByAll 50 = .ok (.iconst 1, 1) := by decide +kernel
theorem dX3_gapByAll_51 : decode cX3_gapByAll 51 = .ok (.goto 4, 3) := by decide +kernel
theorem dX3_gapByAll_54 : decode cX3_gapByAll 54 = .ok (.iconst 0, 1) := by decide +kernel
theorem dX3_gapByAll_55 : decode cX3_gapByAll 55 = .ok (.iadd, 1) := by decide +kernel
theorem dX3_gapByAll_56 : decode cX3_gapByAll 56 = .ok (.istore_n 2, 1) := by decide +kernel
theorem dX3_gapByAll_57 : decode cX3_gapByAll 57 = .ok (.iinc 3 1, 3) := by decide +kernel
theorem dX3_gapByAll_60 : decode cX3_gapByAll 60 = .ok (.goto (-38), 3) := by decide +kernel
theorem dX3_gapByAll_63 : decode cX3_gapByAll 63 = .ok (.iload_n 2, 1) := by decide +kernel
theorem dX3_gapByAll_64 : decode cX3_gapByAll 64 = .ok (.iconst 2, 1) := by decide +kernel
theorem dX3_gapByAll_65 : decode cX3_gapByAll 65 = .ok (.if_icmp .le 11, 3) := by decide +kernel
theorem dX3_gapByAll_68 : decode cX3_gapByAll 68 = .ok (.aload_n 0, 1) := by decide +kernel
theorem dX3_gapByAll_69 : decode cX3_gapByAll 69 = .ok (.iconst 2, 1) := by decide +kernel
theorem dX3_gapByAll_70 : decode cX3_gapByAll 70 = .ok (.invokevirtual 71, 3) := by decide +kernel
theorem dX3_gapByAll_73 : decode cX3_gapByAll 73 = .ok (.goto 8, 3) := by decide +kernel
theorem dX3_gapByAll_76 : decode cX3_gapByAll 76 = .ok (.aload_n 0, 1) := by decide +kernel
theorem dX3_gapByAll_77 : decode cX3_gapByAll 77 = .ok (.iload_n 1, 1) := by decide +kernel
theorem dX3_gapByAll_78 : decode cX3_gapByAll 78 = .ok (.invokevirtual 109, 3) := by decide +kernel
theorem dX3_gapByAll_81 : decode cX3_gapByAll 81 = .ok (.ireturn, 1) := by decide +kernel
set_option maxRecDepth 20000 in
theorem ggX3_gapIf_X3_isProduct : GoodIn wsX3_gapIf wsX3_isProduct := goodIn_r _ [6, 7, 8, 5, 9] (by decide +kernel) (by decide +kernel)
set_option maxRecDepth 20000 in
theorem gX3_gapIf_X3_isProduct : GoodIn wsX3_gapIf (va_wsS RX3 82 yX3_isProduct wsX3_isProduct) := goodIn_app (goodIn_of _ (by decide +kernel)) ggX3_gapIf_X3_isProduct
set_option maxRecDepth 20000 in
theorem ggX3_gapIf_X3_refuses : GoodIn wsX3_gapIf wsX3_refuses := goodIn_r _ [13, 2, 14, 15, 5, 16, 7, 8, 9, 17, 18, 19, 20, 51, 52, 53, 54, 55, 56, 57, 58, 59, 60, 61, 62, 63, 64, 65, 66, 67, 68, 69] (by decide +kernel) (by decide +kernel)
set_option maxRecDepth 20000 in
theorem gX3_gapIf_X3_refuses : GoodIn wsX3_gapIf (wsV RX3 78 RX3 yX3_refuses wsX3_refuses) := goodIn_app (goodIn_of _ (by decide +kernel)) ggX3_gapIf_X3_refuses
set_option maxRecDepth 20000 in
theorem ggX3_gapIf_X3_least : GoodIn wsX3_gapIf wsX3_least := goodIn_r _ [24, 25, 26, 27, 28, 29, 30, 31, 32, 33, 34, 35, 36, 37, 5, 38, 39, 40, 41, 42, 43, 44, 2, 45, 46, 47, 48, 49, 50, 51, 52, 53, 54, 55, 56, 57, 58, 59, 60, 61, 62, 63, 64, 65, 66, 67, 68, 69] (by decide +kernel) (by decide +kernel)
set_option maxRecDepth 20000 in
theorem gX3_gapIf_X3_least : GoodIn wsX3_gapIf (wsV RX3 109 RX3 yX3_least wsX3_least) := goodIn_app (goodIn_of _ (by decide +kernel)) ggX3_gapIf_X3_least
theorem dX3_gapIf_0 : decode cX3_gapIf 0 = .ok (.aload_n 0, 1) := by decide +kernel
theorem dX3_gapIf_1 : decode cX3_gapIf 1 = .ok (.iload_n 1, 1) := by decide +kernel
theorem dX3_gapIf_2 : decode cX3_gapIf 2 = .ok (.invokestatic 82, 3) := by decide +kernel
theorem dX3_gapIf_5 : decode cX3_gapIf 5 = .ok (.ifCond .eq 12, 3) := by decide +kernel
theorem dX3_gapIf_8 : decode cX3_gapIf 8 = .ok (.aload_n 0, 1) := by decide +kernel
theorem dX3_gapIf_9 : decode cX3_gapIf 9 = .ok (.iload_n 2, 1) := by decide +kernel
theorem dX3_gapIf_10 : decode cX3_gapIf 10 = .ok (.iload_n 3, 1) := by decide +kernel
theorem dX3_gapIf_11 : decode cX3_gapIf 11 = .ok (.invokevirtual 78, 3) := by decide +kernel
theorem dX3_gapIf_14 : decode cX3_gapIf 14 = .ok (.goto 4, 3) := by decide +kernel
theorem dX3_gapIf_17 : decode cX3_gapIf 17 = .ok (.iconst 1, 1) := by decide +kernel
theorem dX3_gapIf_18 : decode cX3_gapIf 18 = .ok (.putfield 56, 3) := by decide +kernel
theorem dX3_gapIf_21 : decode cX3_gapIf 21 = .ok (.aload_n 0, 1) := by decide +kernel
theorem dX3_gapIf_22 : decode cX3_gapIf 22 = .ok (.getfield 56, 3) := by decide +kernel
theorem dX3_gapIf_25 : decode cX3_gapIf 25 = .ok (.ifCond .le 5, 3) := by decide +kernel
theorem dX3_gapIf_28 : decode cX3_gapIf 28 = .ok (.iconst 0, 1) := by decide +kernel
theorem dX3_gapIf_29 : decode cX3_gapIf 29 = .ok (.ireturn, 1) := by decide +kernel
theorem dX3_gapIf_30 : decode cX3_gapIf 30 = .ok (.aload_n 0, 1) := by decide +kernel
theorem dX3_gapIf_31 : decode cX3_gapIf 31 = .ok (.getfield 13, 3) := by decide +kernel
theorem dX3_gapIf_34 : decode cX3_gapIf 34 = .ok (.iload_n 2, 1) := by decide +kernel
theorem dX3_gapIf_35 : decode cX3_gapIf 35 = .ok (.iaload, 1) := by decide +kernel
theorem dX3_gapIf_36 : decode cX3_gapIf 36 = .ok (.istore 4, 2) := by decide +kernel
theorem dX3_gapIf_38 : decode cX3_gapIf 38 = .ok (.aload_n 0, 1) := by decide +kernel
theorem dX3_gapIf_39 : decode cX3_gapIf 39 = .ok (.getfield 13, 3) := by decide +kernel
theorem dX3_gapIf_42 : decode cX3_gapIf 42 = .ok (.iload_n 2, 1) := by decide +kernel
theorem dX3_gapIf_43 : decode cX3_gapIf 43 = .ok (.iload_n 3, 1) := by decide +kernel
theorem dX3_gapIf_44 : decode cX3_gapIf 44 = .ok (.iastore, 1) := by decide +kernel
theorem dX3_gapIf_45 : decode cX3_gapIf 45 = .ok (.aload_n 0, 1) := by decide +kernel
theorem dX3_gapIf_46 : decode cX3_gapIf 46 = .ok (.iload_n 1, 1) := by decide +kernel
theorem dX3_gapIf_47 : decode cX3_gapIf 47 = .ok (.invokevirtual 109, 3) := by decide +kernel
theorem dX3_gapIf_50 : decode cX3_gapIf 50 = .ok (.istore 5, 2) := by decide +kernel
theorem dX3_gapIf_52 : decode cX3_gapIf 52 = .ok (.aload_n 0, 1) := by decide +kernel
theorem dX3_gapIf_53 : decode cX3_gapIf 53 = .ok (.getfield 13, 3) := by decide +kernel
theorem dX3_gapIf_56 : decode cX3_gapIf 56 = .ok (.iload_n 2, 1) := by decide +kernel
theorem dX3_gapIf_57 : decode cX3_gapIf 57 = .ok (.iload 4, 2) := by decide +kernel
theorem dX3_gapIf_59 : decode cX3_gapIf 59 = .ok (.iastore, 1) := by decide +kernel
theorem dX3_gapIf_60 : decode cX3_gapIf 60 = .ok (.iload 5, 2) := by decide +kernel
theorem dX3_gapIf_62 : decode cX3_gapIf 62 = .ok (.ireturn, 1) := by decide +kernel
set_option maxRecDepth 20000 in
theorem ggX3_spare_X3_isRight : GoodIn wsX3_spare wsX3_isRight := goodIn_r _ [8, 9, 10, 11, 7, 12, 45, 46, 47, 48, 49, 50, 51, 52, 53, 54, 55, 56, 57, 58, 59, 60, 61, 62, 63] (by decide +kernel) (by decide +kernel)
set_option maxRecDepth 20000 in
theorem gX3_spare_X3_isRight : GoodIn wsX3_spare (wsV RX3 92 RX3 yX3_isRight wsX3_isRight) := goodIn_app (goodIn_of _ (by decide +kernel)) ggX3_spare_X3_isRight
set_option maxRecDepth 20000 in
theorem ggX3_spare_X3_fails : GoodIn wsX3_spare wsX3_fails := goodIn_r _ [16, 1, 45, 46, 47, 48, 49, 50, 51, 52, 53, 54, 55, 56, 57, 58, 59, 60, 61, 62, 63] (by decide +kernel) (by decide +kernel)
set_option maxRecDepth 20000 in
theorem gX3_spare_X3_fails : GoodIn wsX3_spare (wsV RX3 71 RX3 yX3_fails wsX3_fails) := goodIn_app (goodIn_of _ (by decide +kernel)) ggX3_spare_X3_fails
set_option maxRecDepth 20000 in
theorem ggX3_spare_X3_least : GoodIn wsX3_spare wsX3_least := goodIn_r _ [20, 21, 9, 3, 2, 22, 23, 24, 25, 26, 27, 28, 29, 30, 7, 31, 32, 33, 34, 35, 36, 37, 38, 39, 40, 41, 42, 43, 44, 45, 46, 47, 48, 49, 50, 51, 52, 53, 54, 55, 56, 57, 58, 59, 60, 61, 62, 63] (by decide +kernel) (by decide +kernel)
set_option maxRecDepth 20000 in
theorem gX3_spare_X3_least : GoodIn wsX3_spare (wsV RX3 109 RX3 yX3_least wsX3_least) := goodIn_app (goodIn_of _ (by decide +kernel)) ggX3_spare_X3_least
theorem dX3_spare_0 : decode cX3_spare 0 = .ok (.aload_n 0, 1) := by decide +kernel
theorem dX3_spare_1 : decode cX3_spare 1 = .ok (.iconst 0, 1) := by decide +kernel
theorem dX3_spare_2 : decode cX3_spare 2 = .ok (.putfield 56, 3) := by decide +kernel
theorem dX3_spare_5 : decode cX3_spare 5 = .ok (.aload_n 0, 1) := by decide +kernel
theorem dX3_spare_6 : decode cX3_spare 6 = .ok (.iload_n 1, 1) := by decide +kernel
theorem dX3_spare_7 : decode cX3_spare 7 = .ok (.invokevirtual 92, 3) := by decide +kernel
theorem dX3_spare_10 : decode cX3_spare 10 = .ok (.ifCond .ne 9, 3) := by decide +kernel
theorem dX3_spare_13 : decode cX3_spare 13 = .ok (.aload_n 0, 1) := by decide +kernel
theorem dX3_spare_14 : decode cX3_spare 14 = .ok (.iconst 1, 1) := by decide +kernel
theorem dX3_spare_15 : decode cX3_spare 15 = .ok (.invokevirtual 71, 3) := by decide +kernel
theorem dX3_spare_18 : decode cX3_spare 18 = .ok (.ireturn, 1) := by decide +kernel
theorem dX3_spare_19 : decode cX3_spare 19 = .ok (.aload_n 0, 1) := by decide +kernel
theorem dX3_spare_20 : decode cX3_spare 20 = .ok (.getfield 31, 3) := by decide +kernel
theorem dX3_spare_23 : decode cX3_spare 23 = .ok (.iload_n 1, 1) := by decide +kernel
theorem dX3_spare_24 : decode cX3_spare 24 = .ok (.iaload, 1) := by decide +kernel
theorem dX3_spare_25 : decode cX3_spare 25 = .ok (.istore_n 2, 1) := by decide +kernel
theorem dX3_spare_26 : decode cX3_spare 26 = .ok (.aload_n 0, 1) := by decide +kernel
theorem dX3_spare_27 : decode cX3_spare 27 = .ok (.aload_n 0, 1) := by decide +kernel
theorem dX3_spare_28 : decode cX3_spare 28 = .ok (.getfield 25, 3) := by decide +kernel
theorem dX3_spare_31 : decode cX3_spare 31 = .ok (.iload_n 1, 1) := by decide +kernel
theorem dX3_spare_32 : decode cX3_spare 32 = .ok (.iaload, 1) := by decide +kernel
theorem dX3_spare_33 : decode cX3_spare 33 = .ok (.invokevirtual 109, 3) := by decide +kernel
theorem dX3_spare_36 : decode cX3_spare 36 = .ok (.istore_n 3, 1) := by decide +kernel
theorem dX3_spare_37 : decode cX3_spare 37 = .ok (.iconst (-1), 1) := by decide +kernel
theorem dX3_spare_38 : decode cX3_spare 38 = .ok (.istore 4, 2) := by decide +kernel
theorem dX3_spare_40 : decode cX3_spare 40 = .ok (.iload_n 2, 1) := by decide +kernel
theorem dX3_spare_41 : decode cX3_spare 41 = .ok (.istore 5, 2) := by decide +kernel
theorem dX3_spare_43 : decode cX3_spare 43 = .ok (.iload 5, 2) := by decide +kernel
theorem dX3_spare_45 : decode cX3_spare 45 = .ok (.iload 4, 2) := by decide +kernel
theorem dX3_spare_47 : decode cX3_spare 47 = .ok (.isub, 1) := by decide +kernel
theorem dX3_spare_48 : decode cX3_spare 48 = .ok (.iconst 1, 1) := by decide +kernel
theorem dX3_spare_49 : decode cX3_spare 49 = .ok (.if_icmp .le 79, 3) := by decide +kernel
theorem dX3_spare_52 : decode cX3_spare 52 = .ok (.aload_n 0, 1) := by decide +kernel
theorem dX3_spare_53 : decode cX3_spare 53 = .ok (.getfield 31, 3) := by decide +kernel
theorem dX3_spare_56 : decode cX3_spare 56 = .ok (.iload_n 1, 1) := by decide +kernel
theorem dX3_spare_57 : decode cX3_spare 57 = .ok (.iload 4, 2) := by decide +kernel
theorem dX3_spare_59 : decode cX3_spare 59 = .ok (.iload 5, 2) := by decide +kernel
theorem dX3_spare_61 : decode cX3_spare 61 = .ok (.iload 4, 2) := by decide +kernel
theorem dX3_spare_63 : decode cX3_spare 63 = .ok (.isub, 1) := by decide +kernel
theorem dX3_spare_64 : decode cX3_spare 64 = .ok (.iconst 2, 1) := by decide +kernel
theorem dX3_spare_65 : decode cX3_spare 65 = .ok (.idiv, 1) := by decide +kernel
theorem dX3_spare_66 : decode cX3_spare 66 = .ok (.iadd, 1) := by decide +kernel
theorem dX3_spare_67 : decode cX3_spare 67 = .ok (.iastore, 1) := by decide +kernel
theorem dX3_spare_68 : decode cX3_spare 68 = .ok (.aload_n 0, 1) := by decide +kernel
theorem dX3_spare_69 : decode cX3_spare 69 = .ok (.aload_n 0, 1) := by decide +kernel
theorem dX3_spare_70 : decode cX3_spare 70 = .ok (.getfield 25, 3) := by decide +kernel
theorem dX3_spare_73 : decode cX3_spare 73 = .ok (.iload_n 1, 1) := by decide +kernel
theorem dX3_spare_74 : decode cX3_spare 74 = .ok (.iaload, 1) := by decide +kernel
theorem dX3_spare_75 : decode cX3_spare 75 = .ok (.invokevirtual 109, 3) := by decide +kernel
theorem dX3_spare_78 : decode cX3_spare 78 = .ok (.iload_n 3, 1) := by decide +kernel
theorem dX3_spare_79 : decode cX3_spare 79 = .ok (.if_icmp .ne 7, 3) := by decide +kernel
theorem dX3_spare_82 : decode cX3_spare 82 = .ok (.iconst 1, 1) := by decide +kernel
theorem dX3_spare_83 : decode cX3_spare 83 = .ok (.goto 4, 3) := by decide +kernel
theorem dX3_spare_86 : decode cX3_spare 86 = .ok (.iconst 0, 1) := by decide +kernel
theorem dX3_spare_87 : decode cX3_spare 87 = .ok (.istore 6, 2) := by decide +kernel
theorem dX3_spare_89 : decode cX3_spare 89 = .ok (.iload 6, 2) := by decide +kernel
theorem dX3_spare_91 : decode cX3_spare 91 = .ok (.ifCond .eq 12, 3) := by decide +kernel
theorem dX3_spare_94 : decode cX3_spare 94 = .ok (.aload_n 0, 1) := by decide +kernel
theorem dX3_spare_95 : decode cX3_spare 95 = .ok (.getfield 31, 3) := by decide +kernel
theorem dX3_spare_98 : decode cX3_spare 98 = .ok (.iload_n 1, 1) := by decide +kernel
theorem dX3_spare_99 : decode cX3_spare 99 = .ok (.iaload, 1) := by decide +kernel
theorem dX3_spare_100 : decode cX3_spare 100 = .ok (.goto 5, 3) := by decide +kernel
theorem dX3_spare_103 : decode cX3_spare 103 = .ok (.iload 5, 2) := by decide +kernel
theorem dX3_spare_105 : decode cX3_spare 105 = .ok (.istore 5, 2) := by decide +kernel
theorem dX3_spare_107 : decode cX3_spare 107 = .ok (.iload 6, 2) := by decide +kernel
theorem dX3_spare_109 : decode cX3_spare 109 = .ok (.ifCond .eq 8, 3) := by decide +kernel
theorem dX3_spare_112 : decode cX3_spare 112 = .ok (.iload 4, 2) := by decide +kernel
theorem dX3_spare_114 : decode cX3_spare 114 = .ok (.goto 9, 3) := by decide +kernel
theorem dX3_spare_117 : decode cX3_spare 117 = .ok (.aload_n 0, 1) := by decide +kernel
theorem dX3_spare_118 : decode cX3_spare 118 = .ok (.getfield 31, 3) := by decide +kernel
theorem dX3_spare_121 : decode cX3_spare 121 = .ok (.iload_n 1, 1) := by decide +kernel
theorem dX3_spare_122 : decode cX3_spare 122 = .ok (.iaload, 1) := by decide +kernel
theorem dX3_spare_123 : decode cX3_spare 123 = .ok (.istore 4, 2) := by decide +kernel
theorem dX3_spare_125 : decode cX3_spare 125 = .ok (.goto (-82), 3) := by decide +kernel
theorem dX3_spare_128 : decode cX3_spare 128 = .ok (.aload_n 0, 1) := by decide +kernel
theorem dX3_spare_129 : decode cX3_spare 129 = .ok (.getfield 31, 3) := by decide +kernel
theorem dX3_spare_132 : decode cX3_spare 132 = .ok (.iload_n 1, 1) := by decide +kernel
theorem dX3_spare_133 : decode cX3_spare 133 = .ok (.iload_n 2, 1) := by decide +kernel
theorem dX3_spare_134 : decode cX3_spare 134 = .ok (.iastore, 1) := by decide +kernel
theorem dX3_spare_135 : decode cX3_spare 135 = .ok (.iload_n 2, 1) := by decide +kernel
theorem dX3_spare_136 : decode cX3_spare 136 = .ok (.iload 5, 2) := by decide +kernel
theorem dX3_spare_138 : decode cX3_spare 138 = .ok (.isub, 1) := by decide +kernel
theorem dX3_spare_139 : decode cX3_spare 139 = .ok (.ireturn, 1) := by decide +kernel
end
section
-- ===== BASE: the pure functions' own words, and calls over a whole world =====
section KVB
/-- a guard on an index -/
def kv_G {α : Type} (i : Int32) (n : Nat) (x : Option α) : Option α := if i < 0 ∨ n ≤ i.toNatClampNeg then none else x
/-- a guard on a divisor -/
def kv_Z {α : Type} (y : Int32) (x : Option α) : Option α := if y = 0 then none else x
/-- a name for a value -/
def kv_T {α β : Type} (x : α) (k : α → β) : β := k x
theorem kv_G_e {α : Type} {R x : Option α} {i : Int32} {n : Nat} (e : R = kv_G i n x) (h : R ≠ none) : vp_in i n ∧ R = x := by
  unfold kv_G at e
  by_cases c : i < 0 ∨ n ≤ i.toNatClampNeg
  · rw [if_pos c] at e; exact absurd e h
  · rw [if_neg c] at e; exact ⟨c, e⟩
theorem kv_Z_e {α : Type} {R x : Option α} {y : Int32} (e : R = kv_Z y x) (h : R ≠ none) : ¬ y = 0 ∧ R = x := by
  unfold kv_Z at e
  by_cases c : y = 0
  · rw [if_pos c] at e; exact absurd e h
  · rw [if_neg c] at e; exact ⟨c, e⟩
theorem kv_T_e {α β : Type} {R : β} {x y : α} {k : α → β} (e : R = kv_T x k) (h : y = x) : R = k y := by rw [e, h]; rfl
/-- a guard on an answer that is a truth value -/
def kv_B {α : Type} (x : Int32) (k : Option α) : Option α := if x = 0 then k else if x = 1 then k else none
theorem kv_B_e {α : Type} {R k : Option α} {x : Int32} (e : R = kv_B x k) (h : R ≠ none) : narrow .boolean (.int x) = .int x ∧ R = k := by
  unfold kv_B at e
  by_cases c : x = 0
  · rw [if_pos c] at e; subst c; exact ⟨by decide +kernel, e⟩
  · rw [if_neg c] at e
    by_cases d : x = 1
    · rw [if_pos d] at e; subst d; exact ⟨by decide +kernel, e⟩
    · rw [if_neg d] at e; exact absurd e h
/-- how many turns a loop is given -/
def kv_F : Nat := 70000
/-- calls: of a callee that answers, with n cells' new contents -/
def kv_q0 {β : Type} (x : Option Unit) (k : Option β) : Option β := match x with | none => none | some _ => k
def kv_q1 {A β : Type} (x : Option A) (k : A → Option β) : Option β := match x with | none => none | some u => k u
def kv_q2 {A B β : Type} (x : Option (A × B)) (k : A → B → Option β) : Option β := match x with | none => none | some u => k u.1 u.2
def kv_q3 {A B C β : Type} (x : Option (A × B × C)) (k : A → B → C → Option β) : Option β := match x with | none => none | some u => k u.1 u.2.1 u.2.2
def kv_q4 {A B C E β : Type} (x : Option (A × B × C × E)) (k : A → B → C → E → Option β) : Option β := match x with | none => none | some u => k u.1 u.2.1 u.2.2.1 u.2.2.2
def kv_q5 {A B C E F β : Type} (x : Option (A × B × C × E × F)) (k : A → B → C → E → F → Option β) : Option β := match x with | none => none | some u => k u.1 u.2.1 u.2.2.1 u.2.2.2.1 u.2.2.2.2
def kv_q6 {A B C E F G β : Type} (x : Option (A × B × C × E × F × G)) (k : A → B → C → E → F → G → Option β) : Option β := match x with | none => none | some u => k u.1 u.2.1 u.2.2.1 u.2.2.2.1 u.2.2.2.2.1 u.2.2.2.2.2
def kv_q7 {A B C E F G I β : Type} (x : Option (A × B × C × E × F × G × I)) (k : A → B → C → E → F → G → I → Option β) : Option β := match x with | none => none | some u => k u.1 u.2.1 u.2.2.1 u.2.2.2.1 u.2.2.2.2.1 u.2.2.2.2.2.1 u.2.2.2.2.2.2
def kv_q8 {A B C E F G I J β : Type} (x : Option (A × B × C × E × F × G × I × J)) (k : A → B → C → E → F → G → I → J → Option β) : Option β := match x with | none => none | some u => k u.1 u.2.1 u.2.2.1 u.2.2.2.1 u.2.2.2.2.1 u.2.2.2.2.2.1 u.2.2.2.2.2.2.1 u.2.2.2.2.2.2.2
theorem kv_q0_n {β : Type} {R : Option β} {x : Option Unit} {k} (e : R = kv_q0 x k) (h : R ≠ none) : x ≠ none := by intro c; rw [e, c] at h; exact h rfl
theorem kv_q1_n {A β : Type} {R : Option β} {x : Option A} {k} (e : R = kv_q1 x k) (h : R ≠ none) : x ≠ none := by intro c; rw [e, c] at h; exact h rfl
theorem kv_q2_n {A B β : Type} {R : Option β} {x : Option (A × B)} {k} (e : R = kv_q2 x k) (h : R ≠ none) : x ≠ none := by intro c; rw [e, c] at h; exact h rfl
theorem kv_q3_n {A B C β : Type} {R : Option β} {x : Option (A × B × C)} {k} (e : R = kv_q3 x k) (h : R ≠ none) : x ≠ none := by intro c; rw [e, c] at h; exact h rfl
theorem kv_q4_n {A B C E β : Type} {R : Option β} {x : Option (A × B × C × E)} {k} (e : R = kv_q4 x k) (h : R ≠ none) : x ≠ none := by intro c; rw [e, c] at h; exact h rfl
theorem kv_q5_n {A B C E F β : Type} {R : Option β} {x : Option (A × B × C × E × F)} {k} (e : R = kv_q5 x k) (h : R ≠ none) : x ≠ none := by intro c; rw [e, c] at h; exact h rfl
theorem kv_q6_n {A B C E F G β : Type} {R : Option β} {x : Option (A × B × C × E × F × G)} {k} (e : R = kv_q6 x k) (h : R ≠ none) : x ≠ none := by intro c; rw [e, c] at h; exact h rfl
theorem kv_q7_n {A B C E F G I β : Type} {R : Option β} {x : Option (A × B × C × E × F × G × I)} {k} (e : R = kv_q7 x k) (h : R ≠ none) : x ≠ none := by intro c; rw [e, c] at h; exact h rfl
theorem kv_q8_n {A B C E F G I J β : Type} {R : Option β} {x : Option (A × B × C × E × F × G × I × J)} {k} (e : R = kv_q8 x k) (h : R ≠ none) : x ≠ none := by intro c; rw [e, c] at h; exact h rfl
theorem kv_q0_e {β : Type} {R : Option β} {x : Option Unit} {k} (e : R = kv_q0 x k) (h : x = some ()) : R = k := by rw [e, h]; rfl
theorem kv_q1_e {A β : Type} {R : Option β} {x : Option A} {k} (e : R = kv_q1 x k) {a} (h : x = some a) : R = k a := by rw [e, h]; rfl
theorem kv_q2_e {A B β : Type} {R : Option β} {x : Option (A × B)} {k} (e : R = kv_q2 x k) {a b} (h : x = some (a, b)) : R = k a b := by rw [e, h]; rfl
theorem kv_q3_e {A B C β : Type} {R : Option β} {x : Option (A × B × C)} {k} (e : R = kv_q3 x k) {a b c} (h : x = some (a, b, c)) : R = k a b c := by rw [e, h]; rfl
theorem kv_q4_e {A B C E β : Type} {R : Option β} {x : Option (A × B × C × E)} {k} (e : R = kv_q4 x k) {a b c d} (h : x = some (a, b, c, d)) : R = k a b c d := by rw [e, h]; rfl
theorem kv_q5_e {A B C E F β : Type} {R : Option β} {x : Option (A × B × C × E × F)} {k} (e : R = kv_q5 x k) {a b c d f} (h : x = some (a, b, c, d, f)) : R = k a b c d f := by rw [e, h]; rfl
theorem kv_q6_e {A B C E F G β : Type} {R : Option β} {x : Option (A × B × C × E × F × G)} {k} (e : R = kv_q6 x k) {a b c d f g} (h : x = some (a, b, c, d, f, g)) : R = k a b c d f g := by rw [e, h]; rfl
theorem kv_q7_e {A B C E F G I β : Type} {R : Option β} {x : Option (A × B × C × E × F × G × I)} {k} (e : R = kv_q7 x k) {a b c d f g i} (h : x = some (a, b, c, d, f, g, i)) : R = k a b c d f g i := by rw [e, h]; rfl
theorem kv_q8_e {A B C E F G I J β : Type} {R : Option β} {x : Option (A × B × C × E × F × G × I × J)} {k} (e : R = kv_q8 x k) {a b c d f g i j} (h : x = some (a, b, c, d, f, g, i, j)) : R = k a b c d f g i j := by rw [e, h]; rfl
/-- calls of a callee that answers or throws (the exception's number) -/
def kv_x0 {β : Type} (x : Option (Unit ⊕ Nat)) (k : Option (β ⊕ Nat)) : Option (β ⊕ Nat) := match x with | none => none | some (.inr c) => some (.inr c) | some (.inl _) => k
def kv_x1 {A β : Type} (x : Option (A ⊕ Nat)) (k : A → Option (β ⊕ Nat)) : Option (β ⊕ Nat) := match x with | none => none | some (.inr c) => some (.inr c) | some (.inl u) => k u
theorem kv_x0_n {β : Type} {R : Option (β ⊕ Nat)} {x : Option (Unit ⊕ Nat)} {k} (e : R = kv_x0 x k) (h : R ≠ none) : x ≠ none := by intro c; rw [e, c] at h; exact h rfl
theorem kv_x1_n {A β : Type} {R : Option (β ⊕ Nat)} {x : Option (A ⊕ Nat)} {k} (e : R = kv_x1 x k) (h : R ≠ none) : x ≠ none := by intro c; rw [e, c] at h; exact h rfl
theorem kv_x0_e {β : Type} {R : Option (β ⊕ Nat)} {x : Option (Unit ⊕ Nat)} {k} (e : R = kv_x0 x k) (h : x = some (.inl ())) : R = k := by rw [e, h]; rfl
theorem kv_x1_e {A β : Type} {R : Option (β ⊕ Nat)} {x : Option (A ⊕ Nat)} {k} (e : R = kv_x1 x k) {a} (h : x = some (.inl a)) : R = k a := by rw [e, h]; rfl
theorem kv_x0_t {β : Type} {R : Option (β ⊕ Nat)} {x : Option (Unit ⊕ Nat)} {k} (e : R = kv_x0 x k) {c} (h : x = some (.inr c)) : R = some (.inr c) := by rw [e, h]; rfl
theorem kv_x1_t {A β : Type} {R : Option (β ⊕ Nat)} {x : Option (A ⊕ Nat)} {k} (e : R = kv_x1 x k) {c} (h : x = some (.inr c)) : R = some (.inr c) := by rw [e, h]; rfl
end KVB
section KVC
/-- the array classes of the worlds -/
abbrev kv_tys (ci : Nat → Nat) : List (ClassId × FieldType) := [(ci 0, .int), (ci 1, .boolean), (ci 2, .object "java/lang/Object"), (ci 3, .array .int), (ci 4, .long)]
def kv_pre (D : va_G) (ci : Nat → Nat) (w0 : va_W) (sz : Nat) (U : State) : Prop := U.heap.size = sz ∧ va_P D vwCl w0 U.heap ∧ va_K D vwCl (kv_tys ci) U ∧ va_D (fun _ => True) w0
def kv_post (D : va_G) (w0 : va_W) (sz : Nat) (w1 : va_W) (t : State) : Prop := va_P D vwCl w1 t.heap ∧ va_D (va_A w0 sz) w1
theorem kv_pre_blind {D : va_G} {ci : Nat → Nat} {w0 : va_W} {sz : Nat} {av : List Value} : FrameBlind (va_Pc av (kv_pre D ci w0 sz)) := fun a U g mk q => by
  obtain ⟨q0, q1, q2, q3, q4⟩ := q
  exact ⟨q0, q1, q2, va_K.moved (u := U) (U := U.calling g mk a) (Vm.Alike.refl U.vm) q3, q4⟩
variable {p : Program} {l : Launch} {e : Env} {R : Room} {s : State} {m : MethodId} {args : Array Value} {below : List Frame} {meth : Method} {c : Code} {H : Heap} {locs : List Loc} {cells slots : Nat} {Q : State → Prop}
variable {pc : Nat} {ls : Array Slot} {rest st0 : List Value} {a : Array Value} {A : Nat → Prop} {H0 : Heap} {mc ms : Nat} {D : va_G} {ci : Nat → Nat} {w0 : va_W}
theorem kv_Q {g : JFrame} (k : ∀ Q1, Q1 = Q → W p l e R s m args below meth c H locs cells slots Q1 g) : W p l e R s m args below meth c H locs cells slots Q g := k Q rfl
theorem kv_free (hD : va_D A w0) (hS : va_S A H0 H locs) (hA : ∀ q, H0.size ≤ q → A q) : ∀ q, va_A w0 H.size q → A q := by
  intro q h
  rcases h with ⟨k, x, hk⟩ | h
  · exact hD.2 k _ hk
  · exact hA q (Nat.le_trans hS.1 h)
theorem kv_preV {C : String} {b : Nat} {As : List Value} (hK : va_K D vwCl (kv_tys ci) s) (hP : va_P D vwCl w0 H) (hD : va_D A w0) {r : vw_C} {q0 k : Nat} {fs : List Value} (hc : vwCl[k]? = some r) (hC : r.1 = C) (he : w0[q0]? = some (b, .inr (k, fs))) : PreV s H C b (va_Pc (.ref b :: As) (kv_pre D ci w0 H.size)) As := by
  subst hC
  exact ⟨kv_pre_blind, va_recv hK hP hc he, fun U hU hW => ⟨rfl, by rw [hU], by rw [hU]; exact hP, va_K.moved hW.alike hK, hD.weaken (fun _ _ _ _ => trivial)⟩⟩
theorem kv_preS {As : List Value} (hK : va_K D vwCl (kv_tys ci) s) (hP : va_P D vwCl w0 H) (hD : va_D A w0) : PreS s H (va_Pc As (kv_pre D ci w0 H.size)) As :=
  ⟨kv_pre_blind, fun U hU hW => ⟨rfl, by rw [hU], by rw [hU]; exact hP, va_K.moved hW.alike hK, hD.weaken (fun _ _ _ _ => trivial)⟩⟩
theorem kv_calli {S : Type} {post : Int32 → S → Prop} {wf : S → va_W} (hr : va_Run p l e R s m args below meth c H locs cells slots mc ms (F0 m pc ls st0) rest (va_Qi post (fun u t => kv_post D w0 H.size (wf u) t) (va_A w0 H.size) a) (va_A w0 H.size)) (hD : va_D A w0) (hS : va_S A H0 H locs) (hA : ∀ q, H0.size ≤ q → A q)
    (kk : ∀ (r : Int32) (u : S) (H1 : Heap) (locs1 : List Loc), post r u → va_P D vwCl (wf u) H1 → va_D A (wf u) → va_S A H0 H1 locs1 → W p l e R s m args below meth c H1 locs1 (cells + mc) (slots + ms) Q (F0 m (pc + 3) ls (.int r :: rest))) : W p l e R s m args below meth c H locs cells slots Q (F0 m pc ls st0) := by
  have hF := kv_free hD hS hA
  refine va_calli hr hS (fun q _ h => hF q h) hF (fun r u t H1 locs1 ht hvm hw hB hz1 hk1 hS1 => ?_)
  obtain ⟨hP1, hD1⟩ := hB
  rw [ht] at hP1
  exact kk r u H1 locs1 hw hP1 (hD1.weaken fun k x hx hq => hF _ hq) hS1
theorem kv_callv {S : Type} {post : S → Prop} {wf : S → va_W} (hr : va_Run p l e R s m args below meth c H locs cells slots mc ms (F0 m pc ls st0) rest (va_Qv post (fun u t => kv_post D w0 H.size (wf u) t) (va_A w0 H.size) a) (va_A w0 H.size)) (hD : va_D A w0) (hS : va_S A H0 H locs) (hA : ∀ q, H0.size ≤ q → A q)
    (kk : ∀ (u : S) (H1 : Heap) (locs1 : List Loc), post u → va_P D vwCl (wf u) H1 → va_D A (wf u) → va_S A H0 H1 locs1 → W p l e R s m args below meth c H1 locs1 (cells + mc) (slots + ms) Q (F0 m (pc + 3) ls rest)) : W p l e R s m args below meth c H locs cells slots Q (F0 m pc ls st0) := by
  have hF := kv_free hD hS hA
  refine va_callv hr hS (fun q _ h => hF q h) hF (fun u t H1 locs1 ht hvm hw hB hz1 hk1 hS1 => ?_)
  obtain ⟨hP1, hD1⟩ := hB
  rw [ht] at hP1
  exact kk u H1 locs1 hw hP1 (hD1.weaken fun k x hx hq => hF _ hq) hS1
/-- rows that name what they read or write -/
theorem kv_iald (hexec : p.tables.exec = Jvm.exec) {cc : ByteArray} (hb : c.code = cc) {tys : List (ClassId × FieldType)} {ws : va_W} {a : Nat} (hK : va_K D vwCl tys s) (hP : va_P D vwCl ws H) (q0 t0 : Nat) {cA : ClassId} {n : Nat} {f : Nat → Int32} {i : Int32} (hin : vp_in i n) (hdg : decode cc pc = .ok (.iaload, 1)) (ha : ws[q0]? = some (a, .inl (cA, n, .inl f))) (ht : tys[t0]? = some (cA, .int))
    (kk : ∀ y : Int32, y = f i.toNatClampNeg → W p l e R s m args below meth c H locs cells slots Q (F0 m (pc + 1) ls (.int y :: rest))) : W p l e R s m args below meth c H locs cells slots Q (F0 m pc ls (.int i :: .ref a :: rest)) := va_iald hexec hb hK hP q0 t0 ha ht hin hdg (kk _ rfl)
theorem kv_zald (hexec : p.tables.exec = Jvm.exec) {cc : ByteArray} (hb : c.code = cc) {tys : List (ClassId × FieldType)} {ws : va_W} {a : Nat} (hK : va_K D vwCl tys s) (hP : va_P D vwCl ws H) (q0 t0 : Nat) {cA : ClassId} {n : Nat} {f : Nat → Int32} {i : Int32} (hin : vp_in i n) (hdg : decode cc pc = .ok (.baload, 1)) (ha : ws[q0]? = some (a, .inl (cA, n, .inl f))) (ht : tys[t0]? = some (cA, .boolean))
    (kk : ∀ y : Int32, y = f i.toNatClampNeg → W p l e R s m args below meth c H locs cells slots Q (F0 m (pc + 1) ls (.int y :: rest))) : W p l e R s m args below meth c H locs cells slots Q (F0 m pc ls (.int i :: .ref a :: rest)) := va_zald hexec hb hK hP q0 t0 ha ht hin hdg (kk _ rfl)
theorem kv_iast (hexec : p.tables.exec = Jvm.exec) {cc : ByteArray} (hb : c.code = cc) {tys : List (ClassId × FieldType)} {ws : va_W} {a : Nat} (hK : va_K D vwCl tys s) (hP : va_P D vwCl ws H) (hD : va_D A ws) (hS : va_S A H0 H locs) (q0 t0 : Nat) {cA : ClassId} {n : Nat} {f : Nat → Int32} {i x : Int32} (wf : (Nat → Int32) → va_W) (hin : vp_in i n) (hdg : decode cc pc = .ok (.iastore, 1)) (ha : ws[q0]? = some (a, .inl (cA, n, .inl f))) (ht : tys[t0]? = some (cA, .int)) (hw : ∀ g, ws.set q0 (a, .inl (cA, n, .inl g)) = wf g)
    (kk : ∀ (g : Nat → Int32) (H1 : Heap) (locs1 : List Loc), g = upd f i.toNatClampNeg x → va_P D vwCl (wf g) H1 → va_D A (wf g) → va_S A H0 H1 locs1 → W p l e R s m args below meth c H1 locs1 cells slots Q (F0 m (pc + 1) ls rest)) : W p l e R s m args below meth c H locs cells slots Q (F0 m pc ls (.int x :: .int i :: .ref a :: rest)) :=
  va_iast hexec hb hK hP hD hS q0 t0 ha ht hin hdg (fun H1 locs1 h1 h2 h3 => kk _ H1 locs1 rfl (by rw [← hw]; exact h1) (by rw [← hw]; exact h2) h3)
theorem kv_zast (hexec : p.tables.exec = Jvm.exec) {cc : ByteArray} (hb : c.code = cc) {tys : List (ClassId × FieldType)} {ws : va_W} {a : Nat} (hK : va_K D vwCl tys s) (hP : va_P D vwCl ws H) (hD : va_D A ws) (hS : va_S A H0 H locs) (q0 t0 : Nat) {cA : ClassId} {n : Nat} {f : Nat → Int32} {i x : Int32} (wf : (Nat → Int32) → va_W) (hin : vp_in i n) (hdg : decode cc pc = .ok (.bastore, 1)) (ha : ws[q0]? = some (a, .inl (cA, n, .inl f))) (ht : tys[t0]? = some (cA, .boolean)) (hw : ∀ g, ws.set q0 (a, .inl (cA, n, .inl g)) = wf g)
    (kk : ∀ (g : Nat → Int32) (H1 : Heap) (locs1 : List Loc), g = upd f i.toNatClampNeg (vp_nar .boolean x) → va_P D vwCl (wf g) H1 → va_D A (wf g) → va_S A H0 H1 locs1 → W p l e R s m args below meth c H1 locs1 cells slots Q (F0 m (pc + 1) ls rest)) : W p l e R s m args below meth c H locs cells slots Q (F0 m pc ls (.int x :: .int i :: .ref a :: rest)) :=
  va_zast hexec hb hK hP hD hS q0 t0 ha ht hin hdg (fun H1 locs1 h1 h2 h3 => kk _ H1 locs1 rfl (by rw [← hw]; exact h1) (by rw [← hw]; exact h2) h3)
end KVC
def kv_mw (ci md : Nat → Nat) (th : Int32) (nw : Int32) (co : Nat → Int32) (ho : Nat → Int32) (ve : Nat → Int32) (la : Nat → Int32) (pr : Nat → Int32) (rg : Int32) (rp : Nat → Int32) (rm : Nat → Int32) (rc : Nat → Int32) (re : Nat → Int32) (ro : Nat → Int32) (rl : Nat → Int32) (cn : Nat → Int32) (tn : Nat → Int32) (tk : Nat → Int32) (sp : Nat → Int32) (ba : Int32) : va_W := [((md 0), .inr (4, [.int th, .int nw, .ref (md 1), .ref (md 2), .ref (md 3), .ref (md 4), .ref (md 5), .int rg, .ref (md 6), .ref (md 7), .ref (md 8), .ref (md 9), .ref (md 10), .ref (md 11), .ref (md 12), .ref (md 13), .ref (md 14), .ref (md 15), .int ba])),
  ((md 1), .inl (ci 0, 8, .inl co)),
  ((md 2), .inl (ci 0, 8, .inl ho)),
  ((md 3), .inl (ci 0, 32, .inl ve)),
  ((md 4), .inl (ci 0, 4, .inl la)),
  ((md 5), .inl (ci 0, 4, .inl pr)),
  ((md 6), .inl (ci 0, 12, .inl rp)),
  ((md 7), .inl (ci 0, 12, .inl rm)),
  ((md 8), .inl (ci 0, 12, .inl rc)),
  ((md 9), .inl (ci 0, 12, .inl re)),
  ((md 10), .inl (ci 0, 12, .inl ro)),
  ((md 11), .inl (ci 0, 12, .inl rl)),
  ((md 12), .inl (ci 1, 256, .inl cn)),
  ((md 13), .inl (ci 1, 256, .inl tn)),
  ((md 14), .inl (ci 0, 256, .inl tk)),
  ((md 15), .inl (ci 0, 256, .inl sp))]
end
section
def pf_X3_thrown (th : Int32)  : Option (Int32) :=
  some (th)
abbrev rmX3_thrown : Room := { frames := 0, cells := 0, slots := 0, locals := 0 }
set_option maxHeartbeats 4000000 in
set_option maxRecDepth 100000 in
theorem c_X3_thrown (l : Launch) (D : va_G) (ci md : Nat → Nat) (th : Int32) (nw : Int32) (co : Nat → Int32) (ho : Nat → Int32) (ve : Nat → Int32) (la : Nat → Int32) (pr : Nat → Int32) (rg : Int32) (rp : Nat → Int32) (rm : Nat → Int32) (rc : Nat → Int32) (re : Nat → Int32) (ro : Nat → Int32) (rl : Nat → Int32) (cn : Nat → Int32) (tn : Nat → Int32) (tk : Nat → Int32) (sp : Nat → Int32) (ba : Int32)   (hRn : pf_X3_thrown th ≠ none) (sz : Nat) : Met l yX3_thrown wsX3_thrown rmX3_thrown (va_Pc [.ref (md 0)] (kv_pre D ci (kv_mw ci md th nw co ho ve la pr rg rp rm rc re ro rl cn tn tk sp ba) sz)) (va_Qi (fun (r : Int32) (u : Unit) => pf_X3_thrown th = some (r)) (fun u t => kv_post D (kv_mw ci md th nw co ho ve la pr rg rp rm rc re ro rl cn tn tk sp ba) sz (kv_mw ci md th nw co ho ve la pr rg rp rm rc re ro rl cn tn tk sp ba) t) (va_A (kv_mw ci md th nw co ho ve la pr rg rp rm rc re ro rl cn tn tk sp ba) sz)) 0 0 (va_A (kv_mw ci md th nw co ho ve la pr rg rp rm rc re ro rl cn tn tk sp ba) sz) := by
  refine Met.ofW (cc := cX3_thrown) (maxL := 1) (ret := (some .int)) (by decide) rfl ?_
  intro p en s m args below meth c s₁ B hml hv
  obtain ⟨hv0, hsz, hP, hK, hD0⟩ := hv
  have hx := B.exec
  have hb := B.bytes
  have hr := B.returns
  have hts := atoms_spec (ws := wsX3_thrown) B.pre
  have hown : s.vm.findClass RX3 = some m.cls := findClass_of_methodNamed B.named
  have hlocks := B.notSynchronized
  subst hsz
  have hD := hD0.self (sz := s.heap.size)
  generalize hAe : va_A (kv_mw ci md th nw co ho ve la pr rg rp rm rc re ro rl cn tn tk sp ba) s.heap.size = A at hD ⊢
  have hA : ∀ q : Nat, s.heap.size ≤ q → A q := fun q h => by rw [← hAe]; exact Or.inr h
  have hS : va_S A s.heap s.heap [] := va_S.rf
  have hP : va_P D vwCl (kv_mw ci md th nw co ho ve la pr rg rp rm rc re ro rl cn tn tk sp ba) s.heap := hP
  have hinRX3 : ∀ w ∈ u_ws RX3 TX3 19, w ∈ wsX3_thrown := by decide +kernel
  generalize hRd : pf_X3_thrown th = Rz at hRn
  have hRz := hRn
  refine kv_Q (fun Q hQ => ?_)
  refine W.eq (show entryFrame m args 1 = _ from by rw [hv0, lg_entry_eq]) ?_
  have hl := lv_entry ([.ref (md 0)]) (n := 1) (Nat.le_of_ble_eq_true rfl)
  generalize (lg_sl ([.ref (md 0)]) ++ List.replicate (1 - (lg_sl ([.ref (md 0)])).length) Slot.unset).toArray = ls at hl ⊢
  have hl : lv_has ls 1 [(0, .ref (md 0))] := hl
  have e : Rz = pf_X3_thrown th := hRd.symm
  rw [pf_X3_thrown] at e
  refine lv_aload_n hx hb dX3_thrown_0 rfl (lv_at hl 0 rfl) ?_
  refine va_get (D := D) (ci := 4) (v := .int th) (C := RX3) (T := TX3) (N := 19) hx hb hts hinRX3 hown hK hP 0 rfl rfl 0 (by decide) (hts (.fieldLink RX3 56 "LicenceKeeperModel" "thrown" "I") (by decide +kernel)) (fun _ h9 => h9) rfl dX3_thrown_1 ?_
  rw [hQ]
  exact W.iret (v := th) hx hb hr (fun t ht hW => ⟨⟨th, (), rfl, e, ⟨by rw [ht]; exact hP, by rw [hAe]; exact hD⟩⟩, hS.F ht⟩) hS.2.2 dX3_thrown_4

def pf_X3_fails (p0 : Int32) (th : Int32) : Option (Int32 × Int32) :=
  some (0, p0)
abbrev rmX3_fails : Room := { frames := 0, cells := 0, slots := 0, locals := 0 }
set_option maxHeartbeats 4000000 in
set_option maxRecDepth 100000 in
theorem c_X3_fails (l : Launch) (D : va_G) (ci md : Nat → Nat) (th : Int32) (nw : Int32) (co : Nat → Int32) (ho : Nat → Int32) (ve : Nat → Int32) (la : Nat → Int32) (pr : Nat → Int32) (rg : Int32) (rp : Nat → Int32) (rm : Nat → Int32) (rc : Nat → Int32) (re : Nat → Int32) (ro : Nat → Int32) (rl : Nat → Int32) (cn : Nat → Int32) (tn : Nat → Int32) (tk : Nat → Int32) (sp : Nat → Int32) (ba : Int32) (p0 : Int32)  (hRn : pf_X3_fails p0 th ≠ none) (sz : Nat) : Met l yX3_fails wsX3_fails rmX3_fails (va_Pc [.ref (md 0), .int p0] (kv_pre D ci (kv_mw ci md th nw co ho ve la pr rg rp rm rc re ro rl cn tn tk sp ba) sz)) (va_Qi (fun (r : Int32) (u : Int32) => pf_X3_fails p0 th = some (r, u)) (fun u t => kv_post D (kv_mw ci md th nw co ho ve la pr rg rp rm rc re ro rl cn tn tk sp ba) sz (kv_mw ci md u nw co ho ve la pr rg rp rm rc re ro rl cn tn tk sp ba) t) (va_A (kv_mw ci md th nw co ho ve la pr rg rp rm rc re ro rl cn tn tk sp ba) sz)) 0 0 (va_A (kv_mw ci md th nw co ho ve la pr rg rp rm rc re ro rl cn tn tk sp ba) sz) := by
  refine Met.ofW (cc := cX3_fails) (maxL := 2) (ret := (some .int)) (by decide) rfl ?_
  intro p en s m args below meth c s₁ B hml hv
  obtain ⟨hv0, hsz, hP, hK, hD0⟩ := hv
  have hx := B.exec
  have hb := B.bytes
  have hr := B.returns
  have hts := atoms_spec (ws := wsX3_fails) B.pre
  have hown : s.vm.findClass RX3 = some m.cls := findClass_of_methodNamed B.named
  have hlocks := B.notSynchronized
  subst hsz
  have hD := hD0.self (sz := s.heap.size)
  generalize hAe : va_A (kv_mw ci md th nw co ho ve la pr rg rp rm rc re ro rl cn tn tk sp ba) s.heap.size = A at hD ⊢
  have hA : ∀ q : Nat, s.heap.size ≤ q → A q := fun q h => by rw [← hAe]; exact Or.inr h
  have hS : va_S A s.heap s.heap [] := va_S.rf
  have hP : va_P D vwCl (kv_mw ci md th nw co ho ve la pr rg rp rm rc re ro rl cn tn tk sp ba) s.heap := hP
  have hinRX3 : ∀ w ∈ u_ws RX3 TX3 19, w ∈ wsX3_fails := by decide +kernel
  generalize hRd : pf_X3_fails p0 th = Rz at hRn
  have hRz := hRn
  refine kv_Q (fun Q hQ => ?_)
  refine W.eq (show entryFrame m args 2 = _ from by rw [hv0, lg_entry_eq]) ?_
  have hl := lv_entry ([.ref (md 0), .int p0]) (n := 2) (Nat.le_of_ble_eq_true rfl)
  generalize (lg_sl ([.ref (md 0), .int p0]) ++ List.replicate (2 - (lg_sl ([.ref (md 0), .int p0])).length) Slot.unset).toArray = ls at hl ⊢
  have hl : lv_has ls 2 [(0, .ref (md 0)), (1, .int p0)] := hl
  have e : Rz = pf_X3_fails p0 th := hRd.symm
  rw [pf_X3_fails] at e
  refine lv_aload_n hx hb dX3_fails_0 rfl (lv_at hl 0 rfl) ?_
  refine lv_iload_n hx hb dX3_fails_1 rfl (lv_at hl 1 rfl) ?_
  refine va_put (D := D) (ci := 4) (v := .int p0) (ty := .int) (C := RX3) (T := TX3) (N := 19) hx hb hts hinRX3 tyX3 tyX3_ok nmX3 hown hK hP hD hS 0 rfl rfl 0 (by decide) (hts (.fieldLink RX3 56 "LicenceKeeperModel" "thrown" "I") (by decide +kernel)) (fun _ h9 => h9) rfl (by decide +kernel) rfl rfl (Nat.le_of_ble_eq_true rfl) dX3_fails_2 (fun H locs hP hD hS => ?_)
  have hP : va_P D vwCl (kv_mw ci md p0 nw co ho ve la pr rg rp rm rc re ro rl cn tn tk sp ba) H := hP
  have hD : va_D A (kv_mw ci md p0 nw co ho ve la pr rg rp rm rc re ro rl cn tn tk sp ba) := hD
  refine lv_iconst (v := 0) hx hb dX3_fails_5 (by decide) ?_
  rw [hQ]
  exact W.iret (v := 0) hx hb hr (fun t ht hW => ⟨⟨0, (p0), rfl, e, ⟨by rw [ht]; exact hP, by rw [hAe]; exact hD⟩⟩, hS.F ht⟩) hS.2.2 dX3_fails_6

def pf_X3_in (p0 : Int32) (p1 : Int32) (p2 : Int32)  : Option (Int32) :=
  if p0 < p1 then some (0) else if p2 < p0 then some (0) else some (1)
abbrev rmX3_in : Room := { frames := 0, cells := 0, slots := 0, locals := 0 }
set_option maxHeartbeats 4000000 in
set_option maxRecDepth 100000 in
theorem c_X3_in (l : Launch) (D : va_G) (ci md : Nat → Nat) (th : Int32) (nw : Int32) (co : Nat → Int32) (ho : Nat → Int32) (ve : Nat → Int32) (la : Nat → Int32) (pr : Nat → Int32) (rg : Int32) (rp : Nat → Int32) (rm : Nat → Int32) (rc : Nat → Int32) (re : Nat → Int32) (ro : Nat → Int32) (rl : Nat → Int32) (cn : Nat → Int32) (tn : Nat → Int32) (tk : Nat → Int32) (sp : Nat → Int32) (ba : Int32) (p0 : Int32) (p1 : Int32) (p2 : Int32)  (hRn : pf_X3_in p0 p1 p2 ≠ none) (sz : Nat) : Met l yX3_in wsX3_in rmX3_in (va_Pc [.int p0, .int p1, .int p2] (kv_pre D ci (kv_mw ci md th nw co ho ve la pr rg rp rm rc re ro rl cn tn tk sp ba) sz)) (va_Qi (fun (r : Int32) (u : Unit) => pf_X3_in p0 p1 p2 = some (r)) (fun u t => kv_post D (kv_mw ci md th nw co ho ve la pr rg rp rm rc re ro rl cn tn tk sp ba) sz (kv_mw ci md th nw co ho ve la pr rg rp rm rc re ro rl cn tn tk sp ba) t) (va_A (kv_mw ci md th nw co ho ve la pr rg rp rm rc re ro rl cn tn tk sp ba) sz)) 0 0 (va_A (kv_mw ci md th nw co ho ve la pr rg rp rm rc re ro rl cn tn tk sp ba) sz) := by
  refine Met.ofW (cc := cX3_in) (maxL := 3) (ret := (some .boolean)) (by decide) rfl ?_
  intro p en s m args below meth c s₁ B hml hv
  obtain ⟨hv0, hsz, hP, hK, hD0⟩ := hv
  have hx := B.exec
  have hb := B.bytes
  have hr := B.returns
  have hts := atoms_spec (ws := wsX3_in) B.pre
  have hown : s.vm.findClass RX3 = some m.cls := findClass_of_methodNamed B.named
  have hlocks := B.notSynchronized
  subst hsz
  have hD := hD0.self (sz := s.heap.size)
  generalize hAe : va_A (kv_mw ci md th nw co ho ve la pr rg rp rm rc re ro rl cn tn tk sp ba) s.heap.size = A at hD ⊢
  have hA : ∀ q : Nat, s.heap.size ≤ q → A q := fun q h => by rw [← hAe]; exact Or.inr h
  have hS : va_S A s.heap s.heap [] := va_S.rf
  have hP : va_P D vwCl (kv_mw ci md th nw co ho ve la pr rg rp rm rc re ro rl cn tn tk sp ba) s.heap := hP
  generalize hRd : pf_X3_in p0 p1 p2 = Rz at hRn
  have hRz := hRn
  refine kv_Q (fun Q hQ => ?_)
  refine W.eq (show entryFrame m args 3 = _ from by rw [hv0, lg_entry_eq]) ?_
  have hl := lv_entry ([.int p0, .int p1, .int p2]) (n := 3) (Nat.le_of_ble_eq_true rfl)
  generalize (lg_sl ([.int p0, .int p1, .int p2]) ++ List.replicate (3 - (lg_sl ([.int p0, .int p1, .int p2])).length) Slot.unset).toArray = ls at hl ⊢
  have hl : lv_has ls 3 [(0, .int p0), (1, .int p1), (2, .int p2)] := hl
  have e : Rz = pf_X3_in p0 p1 p2 := hRd.symm
  rw [pf_X3_in] at e
  refine lv_iload_n hx hb dX3_in_0 rfl (lv_at hl 0 rfl) ?_
  refine lv_iload_n hx hb dX3_in_1 rfl (lv_at hl 1 rfl) ?_
  refine lv_icmp_lt (tgt := 14) hx hb dX3_in_2 (by decide) (fun c_2 => ?_) (fun c_2 => ?_)
  · have e := e.trans (if_pos c_2)
    refine lv_iconst (v := 0) hx hb dX3_in_14 (by decide) ?_
    rw [hQ]
    exact W.zret (v := 0) hx hb hr (by decide +kernel) (fun t ht hW => ⟨⟨0, (), rfl, e, ⟨by rw [ht]; exact hP, by rw [hAe]; exact hD⟩⟩, hS.F ht⟩) hS.2.2 dX3_in_15
  · have e := e.trans (if_neg c_2)
    refine lv_iload_n hx hb dX3_in_5 rfl (lv_at hl 0 rfl) ?_
    refine lv_iload_n hx hb dX3_in_6 rfl (lv_at hl 2 rfl) ?_
    refine lv_icmp_gt (tgt := 14) hx hb dX3_in_7 (by decide) (fun c_7 => ?_) (fun c_7 => ?_)
    · have e := e.trans (if_pos c_7)
      refine lv_iconst (v := 0) hx hb dX3_in_14 (by decide) ?_
      rw [hQ]
      exact W.zret (v := 0) hx hb hr (by decide +kernel) (fun t ht hW => ⟨⟨0, (), rfl, e, ⟨by rw [ht]; exact hP, by rw [hAe]; exact hD⟩⟩, hS.F ht⟩) hS.2.2 dX3_in_15
    · have e := e.trans (if_neg c_7)
      refine lv_iconst (v := 1) hx hb dX3_in_10 (by decide) ?_
      refine lv_goto (tgt := 15) hx hb dX3_in_11 (by decide) ?_
      rw [hQ]
      exact W.zret (v := 1) hx hb hr (by decide +kernel) (fun t ht hW => ⟨⟨1, (), rfl, e, ⟨by rw [ht]; exact hP, by rw [hAe]; exact hD⟩⟩, hS.F ht⟩) hS.2.2 dX3_in_15

def pf_X3_isMachine (p0 : Int32)  : Option (Int32) :=
  kv_q1 (pf_X3_in p0 0 7) (fun r_4 => kv_B r_4 (some (r_4)))
abbrev rmX3_isMachine : Room := { frames := 1, cells := 0, slots := 0, locals := 22 }
set_option maxHeartbeats 4000000 in
set_option maxRecDepth 100000 in
theorem c_X3_isMachine (l : Launch) (D : va_G) (ci md : Nat → Nat) (th : Int32) (nw : Int32) (co : Nat → Int32) (ho : Nat → Int32) (ve : Nat → Int32) (la : Nat → Int32) (pr : Nat → Int32) (rg : Int32) (rp : Nat → Int32) (rm : Nat → Int32) (rc : Nat → Int32) (re : Nat → Int32) (ro : Nat → Int32) (rl : Nat → Int32) (cn : Nat → Int32) (tn : Nat → Int32) (tk : Nat → Int32) (sp : Nat → Int32) (ba : Int32) (p0 : Int32)  (hRn : pf_X3_isMachine p0 ≠ none) (sz : Nat) : Met l yX3_isMachine wsX3_isMachine rmX3_isMachine (va_Pc [.int p0] (kv_pre D ci (kv_mw ci md th nw co ho ve la pr rg rp rm rc re ro rl cn tn tk sp ba) sz)) (va_Qi (fun (r : Int32) (u : Unit) => pf_X3_isMachine p0 = some (r)) (fun u t => kv_post D (kv_mw ci md th nw co ho ve la pr rg rp rm rc re ro rl cn tn tk sp ba) sz (kv_mw ci md th nw co ho ve la pr rg rp rm rc re ro rl cn tn tk sp ba) t) (va_A (kv_mw ci md th nw co ho ve la pr rg rp rm rc re ro rl cn tn tk sp ba) sz)) 0 0 (va_A (kv_mw ci md th nw co ho ve la pr rg rp rm rc re ro rl cn tn tk sp ba) sz) := by
  refine Met.ofW (cc := cX3_isMachine) (maxL := 1) (ret := (some .boolean)) (by decide) rfl ?_
  intro p en s m args below meth c s₁ B hml hv
  obtain ⟨hv0, hsz, hP, hK, hD0⟩ := hv
  have hx := B.exec
  have hb := B.bytes
  have hr := B.returns
  have hts := atoms_spec (ws := wsX3_isMachine) B.pre
  have hown : s.vm.findClass RX3 = some m.cls := findClass_of_methodNamed B.named
  have hlocks := B.notSynchronized
  subst hsz
  have hD := hD0.self (sz := s.heap.size)
  generalize hAe : va_A (kv_mw ci md th nw co ho ve la pr rg rp rm rc re ro rl cn tn tk sp ba) s.heap.size = A at hD ⊢
  have hA : ∀ q : Nat, s.heap.size ≤ q → A q := fun q h => by rw [← hAe]; exact Or.inr h
  have hS : va_S A s.heap s.heap [] := va_S.rf
  have hP : va_P D vwCl (kv_mw ci md th nw co ho ve la pr rg rp rm rc re ro rl cn tn tk sp ba) s.heap := hP
  generalize hRd : pf_X3_isMachine p0 = Rz at hRn
  have hRz := hRn
  refine kv_Q (fun Q hQ => ?_)
  refine W.eq (show entryFrame m args 1 = _ from by rw [hv0, lg_entry_eq]) ?_
  have hl := lv_entry ([.int p0]) (n := 1) (Nat.le_of_ble_eq_true rfl)
  generalize (lg_sl ([.int p0]) ++ List.replicate (1 - (lg_sl ([.int p0])).length) Slot.unset).toArray = ls at hl ⊢
  have hl : lv_has ls 1 [(0, .int p0)] := hl
  have e : Rz = pf_X3_isMachine p0 := hRd.symm
  rw [pf_X3_isMachine] at e
  refine lv_iload_n hx hb dX3_isMachine_0 rfl (lv_at hl 0 rfl) ?_
  refine lv_iconst (v := 0) hx hb dX3_isMachine_1 (by decide) ?_
  refine lv_bipush (v := 7) hx hb dX3_isMachine_2 (by decide) ?_
  refine kv_calli (va_runS (As := [.int p0, .int 0, .int 7]) (rest := []) ⟨hx, hb, hml, hown, hts⟩ (c_X3_in l D ci md th nw co ho ve la pr rg rp rm rc re ro rl cn tn tk sp ba p0 0 7 (kv_q1_n e hRz) s.heap.size) (va_cwS 3 hts gX3_isMachine_X3_in rfl rfl rfl (by decide +kernel) ⟨Nat.le_of_ble_eq_true rfl, Nat.le_of_ble_eq_true rfl⟩) (kv_preS hK hP hD) rfl rfl hl.1 rfl (lv_room (Nat.le_of_ble_eq_true rfl)) dX3_isMachine_4 ⟨Nat.le_of_ble_eq_true rfl, Nat.le_of_ble_eq_true rfl⟩) hD hS hA (fun r_4 u_4 H locs hw_4 hP hD hS => ?_)
  have e := kv_q1_e e hw_4
  obtain ⟨hn9, e⟩ := kv_B_e e hRz
  rw [hQ]
  exact W.zret (v := r_4) hx hb hr hn9 (fun t ht hW => ⟨⟨r_4, (), rfl, e, ⟨by rw [ht]; exact hP, by rw [hAe]; exact hD⟩⟩, hS.F ht⟩) hS.2.2 dX3_isMachine_7

def pf_X3_isRight (rg : Int32) (p0 : Int32)  : Option (Int32) :=
  kv_q1 (pf_X3_in p0 0 (rg - 1)) (fun r_8 => kv_B r_8 (some (r_8)))
abbrev rmX3_isRight : Room := { frames := 1, cells := 0, slots := 0, locals := 22 }
set_option maxHeartbeats 4000000 in
set_option maxRecDepth 100000 in
theorem c_X3_isRight (l : Launch) (D : va_G) (ci md : Nat → Nat) (th : Int32) (nw : Int32) (co : Nat → Int32) (ho : Nat → Int32) (ve : Nat → Int32) (la : Nat → Int32) (pr : Nat → Int32) (rg : Int32) (rp : Nat → Int32) (rm : Nat → Int32) (rc : Nat → Int32) (re : Nat → Int32) (ro : Nat → Int32) (rl : Nat → Int32) (cn : Nat → Int32) (tn : Nat → Int32) (tk : Nat → Int32) (sp : Nat → Int32) (ba : Int32) (p0 : Int32)  (hRn : pf_X3_isRight rg p0 ≠ none) (sz : Nat) : Met l yX3_isRight wsX3_isRight rmX3_isRight (va_Pc [.ref (md 0), .int p0] (kv_pre D ci (kv_mw ci md th nw co ho ve la pr rg rp rm rc re ro rl cn tn tk sp ba) sz)) (va_Qi (fun (r : Int32) (u : Unit) => pf_X3_isRight rg p0 = some (r)) (fun u t => kv_post D (kv_mw ci md th nw co ho ve la pr rg rp rm rc re ro rl cn tn tk sp ba) sz (kv_mw ci md th nw co ho ve la pr rg rp rm rc re ro rl cn tn tk sp ba) t) (va_A (kv_mw ci md th nw co ho ve la pr rg rp rm rc re ro rl cn tn tk sp ba) sz)) 0 0 (va_A (kv_mw ci md th nw co ho ve la pr rg rp rm rc re ro rl cn tn tk sp ba) sz) := by
  refine Met.ofW (cc := cX3_isRight) (maxL := 2) (ret := (some .boolean)) (by decide) rfl ?_
  intro p en s m args below meth c s₁ B hml hv
  obtain ⟨hv0, hsz, hP, hK, hD0⟩ := hv
  have hx := B.exec
  have hb := B.bytes
  have hr := B.returns
  have hts := atoms_spec (ws := wsX3_isRight) B.pre
  have hown : s.vm.findClass RX3 = some m.cls := findClass_of_methodNamed B.named
  have hlocks := B.notSynchronized
  subst hsz
  have hD := hD0.self (sz := s.heap.size)
  generalize hAe : va_A (kv_mw ci md th nw co ho ve la pr rg rp rm rc re ro rl cn tn tk sp ba) s.heap.size = A at hD ⊢
  have hA : ∀ q : Nat, s.heap.size ≤ q → A q := fun q h => by rw [← hAe]; exact Or.inr h
  have hS : va_S A s.heap s.heap [] := va_S.rf
  have hP : va_P D vwCl (kv_mw ci md th nw co ho ve la pr rg rp rm rc re ro rl cn tn tk sp ba) s.heap := hP
  have hinRX3 : ∀ w ∈ u_ws RX3 TX3 19, w ∈ wsX3_isRight := by decide +kernel
  generalize hRd : pf_X3_isRight rg p0 = Rz at hRn
  have hRz := hRn
  refine kv_Q (fun Q hQ => ?_)
  refine W.eq (show entryFrame m args 2 = _ from by rw [hv0, lg_entry_eq]) ?_
  have hl := lv_entry ([.ref (md 0), .int p0]) (n := 2) (Nat.le_of_ble_eq_true rfl)
  generalize (lg_sl ([.ref (md 0), .int p0]) ++ List.replicate (2 - (lg_sl ([.ref (md 0), .int p0])).length) Slot.unset).toArray = ls at hl ⊢
  have hl : lv_has ls 2 [(0, .ref (md 0)), (1, .int p0)] := hl
  have e : Rz = pf_X3_isRight rg p0 := hRd.symm
  rw [pf_X3_isRight] at e
  refine lv_iload_n hx hb dX3_isRight_0 rfl (lv_at hl 1 rfl) ?_
  refine lv_iconst (v := 0) hx hb dX3_isRight_1 (by decide) ?_
  refine lv_aload_n hx hb dX3_isRight_2 rfl (lv_at hl 0 rfl) ?_
  refine va_get (D := D) (ci := 4) (v := .int rg) (C := RX3) (T := TX3) (N := 19) hx hb hts hinRX3 hown hK hP 0 rfl rfl 7 (by decide) (hts (.fieldLink RX3 64 "LicenceKeeperModel" "rights" "I") (by decide +kernel)) (fun _ h9 => h9) rfl dX3_isRight_3 ?_
  refine lv_iconst (v := 1) hx hb dX3_isRight_6 (by decide) ?_
  refine lv_isub hx hb dX3_isRight_7 ?_
  refine kv_calli (va_runS (As := [.int p0, .int 0, .int (rg - 1)]) (rest := []) ⟨hx, hb, hml, hown, hts⟩ (c_X3_in l D ci md th nw co ho ve la pr rg rp rm rc re ro rl cn tn tk sp ba p0 0 (rg - 1) (kv_q1_n e hRz) s.heap.size) (va_cwS 3 hts gX3_isRight_X3_in rfl rfl rfl (by decide +kernel) ⟨Nat.le_of_ble_eq_true rfl, Nat.le_of_ble_eq_true rfl⟩) (kv_preS hK hP hD) rfl rfl hl.1 rfl (lv_room (Nat.le_of_ble_eq_true rfl)) dX3_isRight_8 ⟨Nat.le_of_ble_eq_true rfl, Nat.le_of_ble_eq_true rfl⟩) hD hS hA (fun r_8 u_8 H locs hw_8 hP hD hS => ?_)
  have e := kv_q1_e e hw_8
  obtain ⟨hn9, e⟩ := kv_B_e e hRz
  rw [hQ]
  exact W.zret (v := r_8) hx hb hr hn9 (fun t ht hW => ⟨⟨r_8, (), rfl, e, ⟨by rw [ht]; exact hP, by rw [hAe]; exact hD⟩⟩, hS.F ht⟩) hS.2.2 dX3_isRight_11

def pf_X3_isHost_29 (ho : Nat → Int32) (p0 : Int32) (k_4 : Int32 → Int32 → Option (Int32)) (x3 : Int32) (z0 : Int32)  : Option (Int32) :=
  k_4 z0 (x3 + 1)
def pf_X3_isHost_4b (ho : Nat → Int32) (p0 : Int32)  (k_4 : Int32 → Int32 → Option (Int32)) (x2 : Int32) (x3 : Int32)  : Option (Int32) :=
  if 8 ≤ x3 then kv_B x2 (some (x2)) else if x2 = 0 then kv_G x3 8 (kv_T (ho x3.toNatClampNeg) (fun y_19 => if y_19 = p0 then pf_X3_isHost_29 ho p0 k_4 x3 1 else pf_X3_isHost_29 ho p0 k_4 x3 0)) else pf_X3_isHost_29 ho p0 k_4 x3 1
def pf_X3_isHost_4 (ho : Nat → Int32) (p0 : Int32)  : Nat → Int32 → Int32 → Option (Int32)
  | 0, _, _ => none
  | nn + 1, x2, x3 => pf_X3_isHost_4b ho p0  (pf_X3_isHost_4 ho p0  nn) x2 x3
def pf_X3_isHost (ho : Nat → Int32) (p0 : Int32)  : Option (Int32) :=
  pf_X3_isHost_4 ho p0 kv_F 0 0
abbrev rmX3_isHost : Room := { frames := 0, cells := 0, slots := 0, locals := 0 }
set_option maxHeartbeats 4000000 in
set_option maxRecDepth 100000 in
theorem c_X3_isHost (l : Launch) (D : va_G) (ci md : Nat → Nat) (th : Int32) (nw : Int32) (co : Nat → Int32) (ho : Nat → Int32) (ve : Nat → Int32) (la : Nat → Int32) (pr : Nat → Int32) (rg : Int32) (rp : Nat → Int32) (rm : Nat → Int32) (rc : Nat → Int32) (re : Nat → Int32) (ro : Nat → Int32) (rl : Nat → Int32) (cn : Nat → Int32) (tn : Nat → Int32) (tk : Nat → Int32) (sp : Nat → Int32) (ba : Int32) (p0 : Int32)  (hRn : pf_X3_isHost ho p0 ≠ none) (sz : Nat) : Met l yX3_isHost wsX3_isHost rmX3_isHost (va_Pc [.ref (md 0), .int p0] (kv_pre D ci (kv_mw ci md th nw co ho ve la pr rg rp rm rc re ro rl cn tn tk sp ba) sz)) (va_Qi (fun (r : Int32) (u : Unit) => pf_X3_isHost ho p0 = some (r)) (fun u t => kv_post D (kv_mw ci md th nw co ho ve la pr rg rp rm rc re ro rl cn tn tk sp ba) sz (kv_mw ci md th nw co ho ve la pr rg rp rm rc re ro rl cn tn tk sp ba) t) (va_A (kv_mw ci md th nw co ho ve la pr rg rp rm rc re ro rl cn tn tk sp ba) sz)) 0 0 (va_A (kv_mw ci md th nw co ho ve la pr rg rp rm rc re ro rl cn tn tk sp ba) sz) := by
  refine Met.ofW (cc := cX3_isHost) (maxL := 4) (ret := (some .boolean)) (by decide) rfl ?_
  intro p en s m args below meth c s₁ B hml hv
  obtain ⟨hv0, hsz, hP, hK, hD0⟩ := hv
  have hx := B.exec
  have hb := B.bytes
  have hr := B.returns
  have hts := atoms_spec (ws := wsX3_isHost) B.pre
  have hown : s.vm.findClass RX3 = some m.cls := findClass_of_methodNamed B.named
  have hlocks := B.notSynchronized
  subst hsz
  have hD := hD0.self (sz := s.heap.size)
  generalize hAe : va_A (kv_mw ci md th nw co ho ve la pr rg rp rm rc re ro rl cn tn tk sp ba) s.heap.size = A at hD ⊢
  have hA : ∀ q : Nat, s.heap.size ≤ q → A q := fun q h => by rw [← hAe]; exact Or.inr h
  have hS : va_S A s.heap s.heap [] := va_S.rf
  have hP : va_P D vwCl (kv_mw ci md th nw co ho ve la pr rg rp rm rc re ro rl cn tn tk sp ba) s.heap := hP
  have hinRX3 : ∀ w ∈ u_ws RX3 TX3 19, w ∈ wsX3_isHost := by decide +kernel
  generalize hRd : pf_X3_isHost ho p0 = Rz at hRn
  have hRz := hRn
  refine kv_Q (fun Q hQ => ?_)
  refine W.eq (show entryFrame m args 4 = _ from by rw [hv0, lg_entry_eq]) ?_
  have hl := lv_entry ([.ref (md 0), .int p0]) (n := 4) (Nat.le_of_ble_eq_true rfl)
  generalize (lg_sl ([.ref (md 0), .int p0]) ++ List.replicate (4 - (lg_sl ([.ref (md 0), .int p0])).length) Slot.unset).toArray = ls at hl ⊢
  have hl : lv_has ls 4 [(0, .ref (md 0)), (1, .int p0)] := hl
  have e : Rz = pf_X3_isHost ho p0 := hRd.symm
  rw [pf_X3_isHost] at e
  have hb_4 : ∀ (n_4 : Nat), ∀ (x2 : Int32) (x3 : Int32) (H : Heap) (locs : List Loc) (ls : Array Slot), va_P D vwCl (kv_mw ci md th nw co ho ve la pr rg rp rm rc re ro rl cn tn tk sp ba) H → va_D A (kv_mw ci md th nw co ho ve la pr rg rp rm rc re ro rl cn tn tk sp ba) → va_S A s.heap H locs → lv_has ls 4 [(0, .ref (md 0)), (1, .int p0), (2, .int x2), (3, .int x3)] → Rz = pf_X3_isHost_4 ho p0  n_4 x2 x3 → W p l en rmX3_isHost s m args below meth c H locs 0 0 Q (F0 m 4 ls []) := by
    intro n_4
    induction n_4 with
    | zero =>
      intro x2 x3 H locs ls  _ _ _ _ e
      exact absurd e hRz
    | succ n_4 ih_4 =>
      have hb_29 : ∀ (x3 : Int32) (z0 : Int32) (H : Heap) (locs : List Loc) (ls : Array Slot), va_P D vwCl (kv_mw ci md th nw co ho ve la pr rg rp rm rc re ro rl cn tn tk sp ba) H → va_D A (kv_mw ci md th nw co ho ve la pr rg rp rm rc re ro rl cn tn tk sp ba) → va_S A s.heap H locs → lv_has ls 4 [(0, .ref (md 0)), (1, .int p0), (3, .int x3)] → Rz = pf_X3_isHost_29 ho p0 (pf_X3_isHost_4 ho p0  n_4) x3 z0 → W p l en rmX3_isHost s m args below meth c H locs 0 0 Q (F0 m 29 ls [.int z0]) := by
        intro x3 z0 H locs ls  hP hD hS hl e
        rw [pf_X3_isHost_29] at e
        refine lv_istore_n (lv' := [(2, .int z0), (0, .ref (md 0)), (1, .int p0), (3, .int x3)]) hx hb dX3_isHost_29 rfl hl (by decide) rfl (fun ls hl => ?_)
        refine lv_iinc (v := x3 + 1) (lv' := [(3, .int (x3 + 1)), (2, .int z0), (0, .ref (md 0)), (1, .int p0)]) hx hb dX3_isHost_30 hl (k := 3) rfl rfl (by decide) rfl (fun ls hl => ?_)
        refine lv_goto (tgt := 4) hx hb dX3_isHost_33 (by decide) ?_
        exact ih_4 z0 (x3 + 1)  _ _ _ hP hD hS (lv_sub hl [2, 3, 1, 0] rfl) e
      intro x2 x3 H locs ls  hP hD hS hl e
      rw [pf_X3_isHost_4, pf_X3_isHost_4b] at e
      refine lv_iload_n hx hb dX3_isHost_4 rfl (lv_at hl 3 rfl) ?_
      refine lv_bipush (v := 8) hx hb dX3_isHost_5 (by decide) ?_
      refine lv_icmp_ge (tgt := 36) hx hb dX3_isHost_7 (by decide) (fun c_7 => ?_) (fun c_7 => ?_)
      · have e := e.trans (if_pos c_7)
        refine lv_iload_n hx hb dX3_isHost_36 rfl (lv_at hl 2 rfl) ?_
        obtain ⟨hn9, e⟩ := kv_B_e e hRz
        rw [hQ]
        exact W.zret (v := x2) hx hb hr hn9 (fun t ht hW => ⟨⟨x2, (), rfl, e, ⟨by rw [ht]; exact hP, by rw [hAe]; exact hD⟩⟩, hS.F ht⟩) hS.2.2 dX3_isHost_37
      · have e := e.trans (if_neg c_7)
        refine lv_iload_n hx hb dX3_isHost_10 rfl (lv_at hl 2 rfl) ?_
        refine lv_if_ne (tgt := 24) hx hb dX3_isHost_11 (by decide) (fun c_11 => ?_) (fun c_11 => ?_)
        · have e := e.trans (if_neg c_11)
          refine lv_iconst (v := 1) hx hb dX3_isHost_24 (by decide) ?_
          refine lv_goto (tgt := 29) hx hb dX3_isHost_25 (by decide) ?_
          exact hb_29 x3 1  _ _ _ hP hD hS (lv_sub hl [0, 1, 3] rfl) e
        · have e := e.trans (if_pos c_11)
          refine lv_aload_n hx hb dX3_isHost_14 rfl (lv_at hl 0 rfl) ?_
          refine va_get (D := D) (ci := 4) (v := .ref (md 2)) (C := RX3) (T := TX3) (N := 19) hx hb hts hinRX3 hown hK hP 0 rfl rfl 3 (by decide) (hts (.fieldLink RX3 13 "LicenceKeeperModel" "host" "[I") (by decide +kernel)) (fun _ h9 => h9) rfl dX3_isHost_15 ?_
          refine lv_iload_n hx hb dX3_isHost_18 rfl (lv_at hl 3 rfl) ?_
          obtain ⟨hi_19, e⟩ := kv_G_e e hRz
          refine kv_iald hx hb hK hP 2 0 hi_19 dX3_isHost_19 rfl rfl (fun y_19 ey_19 => ?_)
          have e := kv_T_e e ey_19
          refine lv_iload_n hx hb dX3_isHost_20 rfl (lv_at hl 1 rfl) ?_
          refine lv_icmp_ne (tgt := 28) hx hb dX3_isHost_21 (by decide) (fun c_21 => ?_) (fun c_21 => ?_)
          · have e := e.trans (if_neg c_21)
            refine lv_iconst (v := 0) hx hb dX3_isHost_28 (by decide) ?_
            exact hb_29 x3 0  _ _ _ hP hD hS (lv_sub hl [0, 1, 3] rfl) e
          · have e := e.trans (if_pos c_21)
            refine lv_iconst (v := 1) hx hb dX3_isHost_24 (by decide) ?_
            refine lv_goto (tgt := 29) hx hb dX3_isHost_25 (by decide) ?_
            exact hb_29 x3 1  _ _ _ hP hD hS (lv_sub hl [0, 1, 3] rfl) e
  refine lv_iconst (v := 0) hx hb dX3_isHost_0 (by decide) ?_
  refine lv_istore_n (lv' := [(2, .int 0), (0, .ref (md 0)), (1, .int p0)]) hx hb dX3_isHost_1 rfl hl (by decide) rfl (fun ls hl => ?_)
  refine lv_iconst (v := 0) hx hb dX3_isHost_2 (by decide) ?_
  refine lv_istore_n (lv' := [(3, .int 0), (2, .int 0), (0, .ref (md 0)), (1, .int p0)]) hx hb dX3_isHost_3 rfl hl (by decide) rfl (fun ls hl => ?_)
  exact hb_4 kv_F 0 0  _ _ _ hP hD hS (lv_sub hl [2, 3, 1, 0] rfl) e

def pf_X3_refuses_21 (ho : Nat → Int32) (p0 : Int32) (p1 : Int32)    : Option (Int32) :=
  if p0 = p1 then some (2) else if p1 = (-1) then some (0) else kv_q1 (pf_X3_isHost ho p0) (fun r_35 => if r_35 = 0 then kv_G p1 8 (kv_T (ho p1.toNatClampNeg) (fun y_46 => if y_46 = (-1) then some (0) else some (3))) else some (3))
def pf_X3_refuses (ho : Nat → Int32) (p0 : Int32) (p1 : Int32)  : Option (Int32) :=
  kv_q1 (pf_X3_isMachine p0) (fun r_1 => if r_1 = 0 then some (1) else if p1 = (-1) then pf_X3_refuses_21 ho p0 p1 else kv_q1 (pf_X3_isMachine p1) (fun r_13 => if r_13 = 0 then some (1) else pf_X3_refuses_21 ho p0 p1))
abbrev rmX3_refuses : Room := { frames := 2, cells := 0, slots := 0, locals := 42 }
set_option maxHeartbeats 4000000 in
set_option maxRecDepth 100000 in
theorem c_X3_refuses (l : Launch) (D : va_G) (ci md : Nat → Nat) (th : Int32) (nw : Int32) (co : Nat → Int32) (ho : Nat → Int32) (ve : Nat → Int32) (la : Nat → Int32) (pr : Nat → Int32) (rg : Int32) (rp : Nat → Int32) (rm : Nat → Int32) (rc : Nat → Int32) (re : Nat → Int32) (ro : Nat → Int32) (rl : Nat → Int32) (cn : Nat → Int32) (tn : Nat → Int32) (tk : Nat → Int32) (sp : Nat → Int32) (ba : Int32) (p0 : Int32) (p1 : Int32)  (hRn : pf_X3_refuses ho p0 p1 ≠ none) (sz : Nat) : Met l yX3_refuses wsX3_refuses rmX3_refuses (va_Pc [.ref (md 0), .int p0, .int p1] (kv_pre D ci (kv_mw ci md th nw co ho ve la pr rg rp rm rc re ro rl cn tn tk sp ba) sz)) (va_Qi (fun (r : Int32) (u : Unit) => pf_X3_refuses ho p0 p1 = some (r)) (fun u t => kv_post D (kv_mw ci md th nw co ho ve la pr rg rp rm rc re ro rl cn tn tk sp ba) sz (kv_mw ci md th nw co ho ve la pr rg rp rm rc re ro rl cn tn tk sp ba) t) (va_A (kv_mw ci md th nw co ho ve la pr rg rp rm rc re ro rl cn tn tk sp ba) sz)) 0 0 (va_A (kv_mw ci md th nw co ho ve la pr rg rp rm rc re ro rl cn tn tk sp ba) sz) := by
  refine Met.ofW (cc := cX3_refuses) (maxL := 3) (ret := (some .int)) (by decide) rfl ?_
  intro p en s m args below meth c s₁ B hml hv
  obtain ⟨hv0, hsz, hP, hK, hD0⟩ := hv
  have hx := B.exec
  have hb := B.bytes
  have hr := B.returns
  have hts := atoms_spec (ws := wsX3_refuses) B.pre
  have hown : s.vm.findClass RX3 = some m.cls := findClass_of_methodNamed B.named
  have hlocks := B.notSynchronized
  subst hsz
  have hD := hD0.self (sz := s.heap.size)
  generalize hAe : va_A (kv_mw ci md th nw co ho ve la pr rg rp rm rc re ro rl cn tn tk sp ba) s.heap.size = A at hD ⊢
  have hA : ∀ q : Nat, s.heap.size ≤ q → A q := fun q h => by rw [← hAe]; exact Or.inr h
  have hS : va_S A s.heap s.heap [] := va_S.rf
  have hP : va_P D vwCl (kv_mw ci md th nw co ho ve la pr rg rp rm rc re ro rl cn tn tk sp ba) s.heap := hP
  have hinRX3 : ∀ w ∈ u_ws RX3 TX3 19, w ∈ wsX3_refuses := by decide +kernel
  generalize hRd : pf_X3_refuses ho p0 p1 = Rz at hRn
  have hRz := hRn
  refine kv_Q (fun Q hQ => ?_)
  refine W.eq (show entryFrame m args 3 = _ from by rw [hv0, lg_entry_eq]) ?_
  have hl := lv_entry ([.ref (md 0), .int p0, .int p1]) (n := 3) (Nat.le_of_ble_eq_true rfl)
  generalize (lg_sl ([.ref (md 0), .int p0, .int p1]) ++ List.replicate (3 - (lg_sl ([.ref (md 0), .int p0, .int p1])).length) Slot.unset).toArray = ls at hl ⊢
  have hl : lv_has ls 3 [(0, .ref (md 0)), (1, .int p0), (2, .int p1)] := hl
  have e : Rz = pf_X3_refuses ho p0 p1 := hRd.symm
  rw [pf_X3_refuses] at e
  have hb_21 : ∀  (H : Heap) (locs : List Loc) (ls : Array Slot), va_P D vwCl (kv_mw ci md th nw co ho ve la pr rg rp rm rc re ro rl cn tn tk sp ba) H → va_D A (kv_mw ci md th nw co ho ve la pr rg rp rm rc re ro rl cn tn tk sp ba) → va_S A s.heap H locs → lv_has ls 3 [(0, .ref (md 0)), (1, .int p0), (2, .int p1)] → Rz = pf_X3_refuses_21 ho p0 p1   → W p l en rmX3_refuses s m args below meth c H locs 0 0 Q (F0 m 21 ls []) := by
    intro  H locs ls  hP hD hS hl e
    rw [pf_X3_refuses_21] at e
    refine lv_iload_n hx hb dX3_refuses_21 rfl (lv_at hl 1 rfl) ?_
    refine lv_iload_n hx hb dX3_refuses_22 rfl (lv_at hl 2 rfl) ?_
    refine lv_icmp_ne (tgt := 28) hx hb dX3_refuses_23 (by decide) (fun c_23 => ?_) (fun c_23 => ?_)
    · have e := e.trans (if_neg c_23)
      refine lv_iload_n hx hb dX3_refuses_28 rfl (lv_at hl 2 rfl) ?_
      refine lv_iconst (v := (-1)) hx hb dX3_refuses_29 (by decide) ?_
      refine lv_icmp_eq (tgt := 55) hx hb dX3_refuses_30 (by decide) (fun c_30 => ?_) (fun c_30 => ?_)
      · have e := e.trans (if_pos c_30)
        refine lv_iconst (v := 0) hx hb dX3_refuses_55 (by decide) ?_
        rw [hQ]
        exact W.iret (v := 0) hx hb hr (fun t ht hW => ⟨⟨0, (), rfl, e, ⟨by rw [ht]; exact hP, by rw [hAe]; exact hD⟩⟩, hS.F ht⟩) hS.2.2 dX3_refuses_56
      · have e := e.trans (if_neg c_30)
        refine lv_aload_n hx hb dX3_refuses_33 rfl (lv_at hl 0 rfl) ?_
        refine lv_iload_n hx hb dX3_refuses_34 rfl (lv_at hl 1 rfl) ?_
        refine kv_calli (va_runV (As := [.int p0]) (rest := []) ⟨hx, hb, hml, hown, hts⟩ (c_X3_isHost l D ci md th nw co ho ve la pr rg rp rm rc re ro rl cn tn tk sp ba p0 (kv_q1_n e hRz) H.size) (cwV 1 hts gX3_refuses_X3_isHost rfl rfl rfl (by decide +kernel) ⟨Nat.le_of_ble_eq_true rfl, Nat.le_of_ble_eq_true rfl⟩) (kv_preV hK hP hD (r := (RX3, TX3, 19)) (q0 := 0) (k := 4) rfl rfl rfl) rfl rfl hl.1 rfl (lv_room (Nat.le_of_ble_eq_true rfl)) dX3_refuses_35 ⟨Nat.le_of_ble_eq_true rfl, Nat.le_of_ble_eq_true rfl⟩) hD hS hA (fun r_35 u_35 H locs hw_35 hP hD hS => ?_)
        have e := kv_q1_e e hw_35
        refine lv_if_ne (tgt := 51) hx hb dX3_refuses_38 (by decide) (fun c_38 => ?_) (fun c_38 => ?_)
        · have e := e.trans (if_neg c_38)
          refine lv_iconst (v := 3) hx hb dX3_refuses_51 (by decide) ?_
          refine lv_goto (tgt := 56) hx hb dX3_refuses_52 (by decide) ?_
          rw [hQ]
          exact W.iret (v := 3) hx hb hr (fun t ht hW => ⟨⟨3, (), rfl, e, ⟨by rw [ht]; exact hP, by rw [hAe]; exact hD⟩⟩, hS.F ht⟩) hS.2.2 dX3_refuses_56
        · have e := e.trans (if_pos c_38)
          refine lv_aload_n hx hb dX3_refuses_41 rfl (lv_at hl 0 rfl) ?_
          refine va_get (D := D) (ci := 4) (v := .ref (md 2)) (C := RX3) (T := TX3) (N := 19) hx hb hts hinRX3 hown hK hP 0 rfl rfl 3 (by decide) (hts (.fieldLink RX3 13 "LicenceKeeperModel" "host" "[I") (by decide +kernel)) (fun _ h9 => h9) rfl dX3_refuses_42 ?_
          refine lv_iload_n hx hb dX3_refuses_45 rfl (lv_at hl 2 rfl) ?_
          obtain ⟨hi_46, e⟩ := kv_G_e e hRz
          refine kv_iald hx hb hK hP 2 0 hi_46 dX3_refuses_46 rfl rfl (fun y_46 ey_46 => ?_)
          have e := kv_T_e e ey_46
          refine lv_iconst (v := (-1)) hx hb dX3_refuses_47 (by decide) ?_
          refine lv_icmp_eq (tgt := 55) hx hb dX3_refuses_48 (by decide) (fun c_48 => ?_) (fun c_48 => ?_)
          · have e := e.trans (if_pos c_48)
            refine lv_iconst (v := 0) hx hb dX3_refuses_55 (by decide) ?_
            rw [hQ]
            exact W.iret (v := 0) hx hb hr (fun t ht hW => ⟨⟨0, (), rfl, e, ⟨by rw [ht]; exact hP, by rw [hAe]; exact hD⟩⟩, hS.F ht⟩) hS.2.2 dX3_refuses_56
          · have e := e.trans (if_neg c_48)
            refine lv_iconst (v := 3) hx hb dX3_refuses_51 (by decide) ?_
            refine lv_goto (tgt := 56) hx hb dX3_refuses_52 (by decide) ?_
            rw [hQ]
            exact W.iret (v := 3) hx hb hr (fun t ht hW => ⟨⟨3, (), rfl, e, ⟨by rw [ht]; exact hP, by rw [hAe]; exact hD⟩⟩, hS.F ht⟩) hS.2.2 dX3_refuses_56
    · have e := e.trans (if_pos c_23)
      refine lv_iconst (v := 2) hx hb dX3_refuses_26 (by decide) ?_
      rw [hQ]
      exact W.iret (v := 2) hx hb hr (fun t ht hW => ⟨⟨2, (), rfl, e, ⟨by rw [ht]; exact hP, by rw [hAe]; exact hD⟩⟩, hS.F ht⟩) hS.2.2 dX3_refuses_27
  refine lv_iload_n hx hb dX3_refuses_0 rfl (lv_at hl 1 rfl) ?_
  refine kv_calli (va_runS (As := [.int p0]) (rest := []) ⟨hx, hb, hml, hown, hts⟩ (c_X3_isMachine l D ci md th nw co ho ve la pr rg rp rm rc re ro rl cn tn tk sp ba p0 (kv_q1_n e hRz) s.heap.size) (va_cwS 1 hts gX3_refuses_X3_isMachine rfl rfl rfl (by decide +kernel) ⟨Nat.le_of_ble_eq_true rfl, Nat.le_of_ble_eq_true rfl⟩) (kv_preS hK hP hD) rfl rfl hl.1 rfl (lv_room (Nat.le_of_ble_eq_true rfl)) dX3_refuses_1 ⟨Nat.le_of_ble_eq_true rfl, Nat.le_of_ble_eq_true rfl⟩) hD hS hA (fun r_1 u_1 H locs hw_1 hP hD hS => ?_)
  have e := kv_q1_e e hw_1
  refine lv_if_eq (tgt := 19) hx hb dX3_refuses_4 (by decide) (fun c_4 => ?_) (fun c_4 => ?_)
  · have e := e.trans (if_pos c_4)
    refine lv_iconst (v := 1) hx hb dX3_refuses_19 (by decide) ?_
    rw [hQ]
    exact W.iret (v := 1) hx hb hr (fun t ht hW => ⟨⟨1, (), rfl, e, ⟨by rw [ht]; exact hP, by rw [hAe]; exact hD⟩⟩, hS.F ht⟩) hS.2.2 dX3_refuses_20
  · have e := e.trans (if_neg c_4)
    refine lv_iload_n hx hb dX3_refuses_7 rfl (lv_at hl 2 rfl) ?_
    refine lv_iconst (v := (-1)) hx hb dX3_refuses_8 (by decide) ?_
    refine lv_icmp_eq (tgt := 21) hx hb dX3_refuses_9 (by decide) (fun c_9 => ?_) (fun c_9 => ?_)
    · have e := e.trans (if_pos c_9)
      exact hb_21   _ _ _ hP hD hS (lv_sub hl [0, 1, 2] rfl) e
    · have e := e.trans (if_neg c_9)
      refine lv_iload_n hx hb dX3_refuses_12 rfl (lv_at hl 2 rfl) ?_
      refine kv_calli (va_runS (As := [.int p1]) (rest := []) ⟨hx, hb, hml, hown, hts⟩ (c_X3_isMachine l D ci md th nw co ho ve la pr rg rp rm rc re ro rl cn tn tk sp ba p1 (kv_q1_n e hRz) H.size) (va_cwS 1 hts gX3_refuses_X3_isMachine rfl rfl rfl (by decide +kernel) ⟨Nat.le_of_ble_eq_true rfl, Nat.le_of_ble_eq_true rfl⟩) (kv_preS hK hP hD) rfl rfl hl.1 rfl (lv_room (Nat.le_of_ble_eq_true rfl)) dX3_refuses_13 ⟨Nat.le_of_ble_eq_true rfl, Nat.le_of_ble_eq_true rfl⟩) hD hS hA (fun r_13 u_13 H locs hw_13 hP hD hS => ?_)
      have e := kv_q1_e e hw_13
      refine lv_if_ne (tgt := 21) hx hb dX3_refuses_16 (by decide) (fun c_16 => ?_) (fun c_16 => ?_)
      · have e := e.trans (if_neg c_16)
        exact hb_21   _ _ _ hP hD hS (lv_sub hl [0, 1, 2] rfl) e
      · have e := e.trans (if_pos c_16)
        refine lv_iconst (v := 1) hx hb dX3_refuses_19 (by decide) ?_
        rw [hQ]
        exact W.iret (v := 1) hx hb hr (fun t ht hW => ⟨⟨1, (), rfl, e, ⟨by rw [ht]; exact hP, by rw [hAe]; exact hD⟩⟩, hS.F ht⟩) hS.2.2 dX3_refuses_20

def pf_X3_setCores (p0 : Int32) (p1 : Int32) (th : Int32) (co : Nat → Int32) : Option (Int32 × Int32 × (Nat → Int32)) :=
  kv_q1 (pf_X3_isMachine p0) (fun r_6 => if r_6 = 0 then kv_q2 (pf_X3_fails 1 0) (fun r_14 u_14 => some (r_14, u_14, co)) else kv_q1 (pf_X3_in p1 1 64) (fun r_22 => if r_22 = 0 then kv_q2 (pf_X3_fails 2 0) (fun r_30 u_30 => some (r_30, u_30, co)) else kv_G p0 8 (kv_T (co p0.toNatClampNeg) (fun y_39 => kv_G p0 8 (kv_T (upd co p0.toNatClampNeg p1) (fun g_47 => some (y_39, 0, g_47)))))))
abbrev rmX3_setCores : Room := { frames := 2, cells := 0, slots := 0, locals := 42 }
set_option maxHeartbeats 4000000 in
set_option maxRecDepth 100000 in
theorem c_X3_setCores (l : Launch) (D : va_G) (ci md : Nat → Nat) (th : Int32) (nw : Int32) (co : Nat → Int32) (ho : Nat → Int32) (ve : Nat → Int32) (la : Nat → Int32) (pr : Nat → Int32) (rg : Int32) (rp : Nat → Int32) (rm : Nat → Int32) (rc : Nat → Int32) (re : Nat → Int32) (ro : Nat → Int32) (rl : Nat → Int32) (cn : Nat → Int32) (tn : Nat → Int32) (tk : Nat → Int32) (sp : Nat → Int32) (ba : Int32) (p0 : Int32) (p1 : Int32)  (hRn : pf_X3_setCores p0 p1 th co ≠ none) (sz : Nat) : Met l yX3_setCores wsX3_setCores rmX3_setCores (va_Pc [.ref (md 0), .int p0, .int p1] (kv_pre D ci (kv_mw ci md th nw co ho ve la pr rg rp rm rc re ro rl cn tn tk sp ba) sz)) (va_Qi (fun (r : Int32) (u : Int32 × (Nat → Int32)) => pf_X3_setCores p0 p1 th co = some (r, u)) (fun u t => kv_post D (kv_mw ci md th nw co ho ve la pr rg rp rm rc re ro rl cn tn tk sp ba) sz (kv_mw ci md u.1 nw u.2 ho ve la pr rg rp rm rc re ro rl cn tn tk sp ba) t) (va_A (kv_mw ci md th nw co ho ve la pr rg rp rm rc re ro rl cn tn tk sp ba) sz)) 0 0 (va_A (kv_mw ci md th nw co ho ve la pr rg rp rm rc re ro rl cn tn tk sp ba) sz) := by
  refine Met.ofW (cc := cX3_setCores) (maxL := 4) (ret := (some .int)) (by decide) rfl ?_
  intro p en s m args below meth c s₁ B hml hv
  obtain ⟨hv0, hsz, hP, hK, hD0⟩ := hv
  have hx := B.exec
  have hb := B.bytes
  have hr := B.returns
  have hts := atoms_spec (ws := wsX3_setCores) B.pre
  have hown : s.vm.findClass RX3 = some m.cls := findClass_of_methodNamed B.named
  have hlocks := B.notSynchronized
  subst hsz
  have hD := hD0.self (sz := s.heap.size)
  generalize hAe : va_A (kv_mw ci md th nw co ho ve la pr rg rp rm rc re ro rl cn tn tk sp ba) s.heap.size = A at hD ⊢
  have hA : ∀ q : Nat, s.heap.size ≤ q → A q := fun q h => by rw [← hAe]; exact Or.inr h
  have hS : va_S A s.heap s.heap [] := va_S.rf
  have hP : va_P D vwCl (kv_mw ci md th nw co ho ve la pr rg rp rm rc re ro rl cn tn tk sp ba) s.heap := hP
  have hinRX3 : ∀ w ∈ u_ws RX3 TX3 19, w ∈ wsX3_setCores := by decide +kernel
  generalize hRd : pf_X3_setCores p0 p1 th co = Rz at hRn
  have hRz := hRn
  refine kv_Q (fun Q hQ => ?_)
  refine W.eq (show entryFrame m args 4 = _ from by rw [hv0, lg_entry_eq]) ?_
  have hl := lv_entry ([.ref (md 0), .int p0, .int p1]) (n := 4) (Nat.le_of_ble_eq_true rfl)
  generalize (lg_sl ([.ref (md 0), .int p0, .int p1]) ++ List.replicate (4 - (lg_sl ([.ref (md 0), .int p0, .int p1])).length) Slot.unset).toArray = ls at hl ⊢
  have hl : lv_has ls 4 [(0, .ref (md 0)), (1, .int p0), (2, .int p1)] := hl
  have e : Rz = pf_X3_setCores p0 p1 th co := hRd.symm
  rw [pf_X3_setCores] at e
  refine lv_aload_n hx hb dX3_setCores_0 rfl (lv_at hl 0 rfl) ?_
  refine lv_iconst (v := 0) hx hb dX3_setCores_1 (by decide) ?_
  refine va_put (D := D) (ci := 4) (v := .int 0) (ty := .int) (C := RX3) (T := TX3) (N := 19) hx hb hts hinRX3 tyX3 tyX3_ok nmX3 hown hK hP hD hS 0 rfl rfl 0 (by decide) (hts (.fieldLink RX3 56 "LicenceKeeperModel" "thrown" "I") (by decide +kernel)) (fun _ h9 => h9) rfl (by decide +kernel) rfl rfl (Nat.le_of_ble_eq_true rfl) dX3_setCores_2 (fun H locs hP hD hS => ?_)
  have hP : va_P D vwCl (kv_mw ci md 0 nw co ho ve la pr rg rp rm rc re ro rl cn tn tk sp ba) H := hP
  have hD : va_D A (kv_mw ci md 0 nw co ho ve la pr rg rp rm rc re ro rl cn tn tk sp ba) := hD
  refine lv_iload_n hx hb dX3_setCores_5 rfl (lv_at hl 1 rfl) ?_
  refine kv_calli (va_runS (As := [.int p0]) (rest := []) ⟨hx, hb, hml, hown, hts⟩ (c_X3_isMachine l D ci md 0 nw co ho ve la pr rg rp rm rc re ro rl cn tn tk sp ba p0 (kv_q1_n e hRz) H.size) (va_cwS 1 hts gX3_setCores_X3_isMachine rfl rfl rfl (by decide +kernel) ⟨Nat.le_of_ble_eq_true rfl, Nat.le_of_ble_eq_true rfl⟩) (kv_preS hK hP hD) rfl rfl hl.1 rfl (lv_room (Nat.le_of_ble_eq_true rfl)) dX3_setCores_6 ⟨Nat.le_of_ble_eq_true rfl, Nat.le_of_ble_eq_true rfl⟩) hD hS hA (fun r_6 u_6 H locs hw_6 hP hD hS => ?_)
  have e := kv_q1_e e hw_6
  refine lv_if_ne (tgt := 18) hx hb dX3_setCores_9 (by decide) (fun c_9 => ?_) (fun c_9 => ?_)
  · have e := e.trans (if_neg c_9)
    refine lv_iload_n hx hb dX3_setCores_18 rfl (lv_at hl 2 rfl) ?_
    refine lv_iconst (v := 1) hx hb dX3_setCores_19 (by decide) ?_
    refine lv_bipush (v := 64) hx hb dX3_setCores_20 (by decide) ?_
    refine kv_calli (va_runS (As := [.int p1, .int 1, .int 64]) (rest := []) ⟨hx, hb, hml, hown, hts⟩ (c_X3_in l D ci md 0 nw co ho ve la pr rg rp rm rc re ro rl cn tn tk sp ba p1 1 64 (kv_q1_n e hRz) H.size) (va_cwS 3 hts gX3_setCores_X3_in rfl rfl rfl (by decide +kernel) ⟨Nat.le_of_ble_eq_true rfl, Nat.le_of_ble_eq_true rfl⟩) (kv_preS hK hP hD) rfl rfl hl.1 rfl (lv_room (Nat.le_of_ble_eq_true rfl)) dX3_setCores_22 ⟨Nat.le_of_ble_eq_true rfl, Nat.le_of_ble_eq_true rfl⟩) hD hS hA (fun r_22 u_22 H locs hw_22 hP hD hS => ?_)
    have e := kv_q1_e e hw_22
    refine lv_if_ne (tgt := 34) hx hb dX3_setCores_25 (by decide) (fun c_25 => ?_) (fun c_25 => ?_)
    · have e := e.trans (if_neg c_25)
      refine lv_aload_n hx hb dX3_setCores_34 rfl (lv_at hl 0 rfl) ?_
      refine va_get (D := D) (ci := 4) (v := .ref (md 1)) (C := RX3) (T := TX3) (N := 19) hx hb hts hinRX3 hown hK hP 0 rfl rfl 2 (by decide) (hts (.fieldLink RX3 7 "LicenceKeeperModel" "cores" "[I") (by decide +kernel)) (fun _ h9 => h9) rfl dX3_setCores_35 ?_
      refine lv_iload_n hx hb dX3_setCores_38 rfl (lv_at hl 1 rfl) ?_
      obtain ⟨hi_39, e⟩ := kv_G_e e hRz
      refine kv_iald hx hb hK hP 1 0 hi_39 dX3_setCores_39 rfl rfl (fun y_39 ey_39 => ?_)
      have e := kv_T_e e ey_39
      refine lv_istore_n (lv' := [(3, .int y_39), (0, .ref (md 0)), (1, .int p0), (2, .int p1)]) hx hb dX3_setCores_40 rfl hl (by decide) rfl (fun ls hl => ?_)
      refine lv_aload_n hx hb dX3_setCores_41 rfl (lv_at hl 1 rfl) ?_
      refine va_get (D := D) (ci := 4) (v := .ref (md 1)) (C := RX3) (T := TX3) (N := 19) hx hb hts hinRX3 hown hK hP 0 rfl rfl 2 (by decide) (hts (.fieldLink RX3 7 "LicenceKeeperModel" "cores" "[I") (by decide +kernel)) (fun _ h9 => h9) rfl dX3_setCores_42 ?_
      refine lv_iload_n hx hb dX3_setCores_45 rfl (lv_at hl 2 rfl) ?_
      refine lv_iload_n hx hb dX3_setCores_46 rfl (lv_at hl 3 rfl) ?_
      obtain ⟨hi_47, e⟩ := kv_G_e e hRz
      refine kv_iast hx hb hK hP hD hS 1 0 (fun g_47 => (kv_mw ci md 0 nw g_47 ho ve la pr rg rp rm rc re ro rl cn tn tk sp ba)) hi_47 dX3_setCores_47 rfl rfl (fun _ => rfl) (fun g_47 H locs eg_47 hP hD hS => ?_)
      have e := kv_T_e e eg_47
      refine lv_iload_n hx hb dX3_setCores_48 rfl (lv_at hl 0 rfl) ?_
      rw [hQ]
      exact W.iret (v := y_39) hx hb hr (fun t ht hW => ⟨⟨y_39, (0, g_47), rfl, e, ⟨by rw [ht]; exact hP, by rw [hAe]; exact hD⟩⟩, hS.F ht⟩) hS.2.2 dX3_setCores_49
    · have e := e.trans (if_pos c_25)
      refine lv_aload_n hx hb dX3_setCores_28 rfl (lv_at hl 0 rfl) ?_
      refine lv_iconst (v := 2) hx hb dX3_setCores_29 (by decide) ?_
      refine kv_calli (va_runV (As := [.int 2]) (rest := []) ⟨hx, hb, hml, hown, hts⟩ (c_X3_fails l D ci md 0 nw co ho ve la pr rg rp rm rc re ro rl cn tn tk sp ba 2 (kv_q2_n e hRz) H.size) (cwV 1 hts gX3_setCores_X3_fails rfl rfl rfl (by decide +kernel) ⟨Nat.le_of_ble_eq_true rfl, Nat.le_of_ble_eq_true rfl⟩) (kv_preV hK hP hD (r := (RX3, TX3, 19)) (q0 := 0) (k := 4) rfl rfl rfl) rfl rfl hl.1 rfl (lv_room (Nat.le_of_ble_eq_true rfl)) dX3_setCores_30 ⟨Nat.le_of_ble_eq_true rfl, Nat.le_of_ble_eq_true rfl⟩) hD hS hA (fun r_30 u_30 H locs hw_30 hP hD hS => ?_)
      have e := kv_q2_e e hw_30
      have hP : va_P D vwCl (kv_mw ci md u_30 nw co ho ve la pr rg rp rm rc re ro rl cn tn tk sp ba) H := hP
      have hD : va_D A (kv_mw ci md u_30 nw co ho ve la pr rg rp rm rc re ro rl cn tn tk sp ba) := hD
      rw [hQ]
      exact W.iret (v := r_30) hx hb hr (fun t ht hW => ⟨⟨r_30, (u_30, co), rfl, e, ⟨by rw [ht]; exact hP, by rw [hAe]; exact hD⟩⟩, hS.F ht⟩) hS.2.2 dX3_setCores_33
  · have e := e.trans (if_pos c_9)
    refine lv_aload_n hx hb dX3_setCores_12 rfl (lv_at hl 0 rfl) ?_
    refine lv_iconst (v := 1) hx hb dX3_setCores_13 (by decide) ?_
    refine kv_calli (va_runV (As := [.int 1]) (rest := []) ⟨hx, hb, hml, hown, hts⟩ (c_X3_fails l D ci md 0 nw co ho ve la pr rg rp rm rc re ro rl cn tn tk sp ba 1 (kv_q2_n e hRz) H.size) (cwV 1 hts gX3_setCores_X3_fails rfl rfl rfl (by decide +kernel) ⟨Nat.le_of_ble_eq_true rfl, Nat.le_of_ble_eq_true rfl⟩) (kv_preV hK hP hD (r := (RX3, TX3, 19)) (q0 := 0) (k := 4) rfl rfl rfl) rfl rfl hl.1 rfl (lv_room (Nat.le_of_ble_eq_true rfl)) dX3_setCores_14 ⟨Nat.le_of_ble_eq_true rfl, Nat.le_of_ble_eq_true rfl⟩) hD hS hA (fun r_14 u_14 H locs hw_14 hP hD hS => ?_)
    have e := kv_q2_e e hw_14
    have hP : va_P D vwCl (kv_mw ci md u_14 nw co ho ve la pr rg rp rm rc re ro rl cn tn tk sp ba) H := hP
    have hD : va_D A (kv_mw ci md u_14 nw co ho ve la pr rg rp rm rc re ro rl cn tn tk sp ba) := hD
    rw [hQ]
    exact W.iret (v := r_14) hx hb hr (fun t ht hW => ⟨⟨r_14, (u_14, co), rfl, e, ⟨by rw [ht]; exact hP, by rw [hAe]; exact hD⟩⟩, hS.F ht⟩) hS.2.2 dX3_setCores_17

def pf_X3_isProduct (p0 : Int32)  : Option (Int32) :=
  kv_q1 (pf_X3_in p0 0 3) (fun r_3 => kv_B r_3 (some (r_3)))
abbrev rmX3_isProduct : Room := { frames := 1, cells := 0, slots := 0, locals := 22 }
set_option maxHeartbeats 4000000 in
set_option maxRecDepth 100000 in
theorem c_X3_isProduct (l : Launch) (D : va_G) (ci md : Nat → Nat) (th : Int32) (nw : Int32) (co : Nat → Int32) (ho : Nat → Int32) (ve : Nat → Int32) (la : Nat → Int32) (pr : Nat → Int32) (rg : Int32) (rp : Nat → Int32) (rm : Nat → Int32) (rc : Nat → Int32) (re : Nat → Int32) (ro : Nat → Int32) (rl : Nat → Int32) (cn : Nat → Int32) (tn : Nat → Int32) (tk : Nat → Int32) (sp : Nat → Int32) (ba : Int32) (p0 : Int32)  (hRn : pf_X3_isProduct p0 ≠ none) (sz : Nat) : Met l yX3_isProduct wsX3_isProduct rmX3_isProduct (va_Pc [.int p0] (kv_pre D ci (kv_mw ci md th nw co ho ve la pr rg rp rm rc re ro rl cn tn tk sp ba) sz)) (va_Qi (fun (r : Int32) (u : Unit) => pf_X3_isProduct p0 = some (r)) (fun u t => kv_post D (kv_mw ci md th nw co ho ve la pr rg rp rm rc re ro rl cn tn tk sp ba) sz (kv_mw ci md th nw co ho ve la pr rg rp rm rc re ro rl cn tn tk sp ba) t) (va_A (kv_mw ci md th nw co ho ve la pr rg rp rm rc re ro rl cn tn tk sp ba) sz)) 0 0 (va_A (kv_mw ci md th nw co ho ve la pr rg rp rm rc re ro rl cn tn tk sp ba) sz) := by
  refine Met.ofW (cc := cX3_isProduct) (maxL := 1) (ret := (some .boolean)) (by decide) rfl ?_
  intro p en s m args below meth c s₁ B hml hv
  obtain ⟨hv0, hsz, hP, hK, hD0⟩ := hv
  have hx := B.exec
  have hb := B.bytes
  have hr := B.returns
  have hts := atoms_spec (ws := wsX3_isProduct) B.pre
  have hown : s.vm.findClass RX3 = some m.cls := findClass_of_methodNamed B.named
  have hlocks := B.notSynchronized
  subst hsz
  have hD := hD0.self (sz := s.heap.size)
  generalize hAe : va_A (kv_mw ci md th nw co ho ve la pr rg rp rm rc re ro rl cn tn tk sp ba) s.heap.size = A at hD ⊢
  have hA : ∀ q : Nat, s.heap.size ≤ q → A q := fun q h => by rw [← hAe]; exact Or.inr h
  have hS : va_S A s.heap s.heap [] := va_S.rf
  have hP : va_P D vwCl (kv_mw ci md th nw co ho ve la pr rg rp rm rc re ro rl cn tn tk sp ba) s.heap := hP
  generalize hRd : pf_X3_isProduct p0 = Rz at hRn
  have hRz := hRn
  refine kv_Q (fun Q hQ => ?_)
  refine W.eq (show entryFrame m args 1 = _ from by rw [hv0, lg_entry_eq]) ?_
  have hl := lv_entry ([.int p0]) (n := 1) (Nat.le_of_ble_eq_true rfl)
  generalize (lg_sl ([.int p0]) ++ List.replicate (1 - (lg_sl ([.int p0])).length) Slot.unset).toArray = ls at hl ⊢
  have hl : lv_has ls 1 [(0, .int p0)] := hl
  have e : Rz = pf_X3_isProduct p0 := hRd.symm
  rw [pf_X3_isProduct] at e
  refine lv_iload_n hx hb dX3_isProduct_0 rfl (lv_at hl 0 rfl) ?_
  refine lv_iconst (v := 0) hx hb dX3_isProduct_1 (by decide) ?_
  refine lv_iconst (v := 3) hx hb dX3_isProduct_2 (by decide) ?_
  refine kv_calli (va_runS (As := [.int p0, .int 0, .int 3]) (rest := []) ⟨hx, hb, hml, hown, hts⟩ (c_X3_in l D ci md th nw co ho ve la pr rg rp rm rc re ro rl cn tn tk sp ba p0 0 3 (kv_q1_n e hRz) s.heap.size) (va_cwS 3 hts gX3_isProduct_X3_in rfl rfl rfl (by decide +kernel) ⟨Nat.le_of_ble_eq_true rfl, Nat.le_of_ble_eq_true rfl⟩) (kv_preS hK hP hD) rfl rfl hl.1 rfl (lv_room (Nat.le_of_ble_eq_true rfl)) dX3_isProduct_3 ⟨Nat.le_of_ble_eq_true rfl, Nat.le_of_ble_eq_true rfl⟩) hD hS hA (fun r_3 u_3 H locs hw_3 hP hD hS => ?_)
  have e := kv_q1_e e hw_3
  obtain ⟨hn9, e⟩ := kv_B_e e hRz
  rw [hQ]
  exact W.zret (v := r_3) hx hb hr hn9 (fun t ht hW => ⟨⟨r_3, (), rfl, e, ⟨by rw [ht]; exact hP, by rw [hAe]; exact hD⟩⟩, hS.F ht⟩) hS.2.2 dX3_isProduct_6

def pf_X3_move (p0 : Int32) (p1 : Int32) (th : Int32) (ho : Nat → Int32) : Option (Int32 × Int32 × (Nat → Int32)) :=
  kv_q1 (pf_X3_refuses ho p0 p1) (fun r_4 => if r_4 ≤ 0 then kv_G p0 8 (kv_T (ho p0.toNatClampNeg) (fun y_24 => kv_G p0 8 (kv_T (upd ho p0.toNatClampNeg p1) (fun g_32 => some (y_24, r_4, g_32))))) else some (0, r_4, ho))
abbrev rmX3_move : Room := { frames := 3, cells := 0, slots := 0, locals := 64 }
set_option maxHeartbeats 4000000 in
set_option maxRecDepth 100000 in
theorem c_X3_move (l : Launch) (D : va_G) (ci md : Nat → Nat) (th : Int32) (nw : Int32) (co : Nat → Int32) (ho : Nat → Int32) (ve : Nat → Int32) (la : Nat → Int32) (pr : Nat → Int32) (rg : Int32) (rp : Nat → Int32) (rm : Nat → Int32) (rc : Nat → Int32) (re : Nat → Int32) (ro : Nat → Int32) (rl : Nat → Int32) (cn : Nat → Int32) (tn : Nat → Int32) (tk : Nat → Int32) (sp : Nat → Int32) (ba : Int32) (p0 : Int32) (p1 : Int32)  (hRn : pf_X3_move p0 p1 th ho ≠ none) (sz : Nat) : Met l yX3_move wsX3_move rmX3_move (va_Pc [.ref (md 0), .int p0, .int p1] (kv_pre D ci (kv_mw ci md th nw co ho ve la pr rg rp rm rc re ro rl cn tn tk sp ba) sz)) (va_Qi (fun (r : Int32) (u : Int32 × (Nat → Int32)) => pf_X3_move p0 p1 th ho = some (r, u)) (fun u t => kv_post D (kv_mw ci md th nw co ho ve la pr rg rp rm rc re ro rl cn tn tk sp ba) sz (kv_mw ci md u.1 nw co u.2 ve la pr rg rp rm rc re ro rl cn tn tk sp ba) t) (va_A (kv_mw ci md th nw co ho ve la pr rg rp rm rc re ro rl cn tn tk sp ba) sz)) 0 0 (va_A (kv_mw ci md th nw co ho ve la pr rg rp rm rc re ro rl cn tn tk sp ba) sz) := by
  refine Met.ofW (cc := cX3_move) (maxL := 4) (ret := (some .int)) (by decide) rfl ?_
  intro p en s m args below meth c s₁ B hml hv
  obtain ⟨hv0, hsz, hP, hK, hD0⟩ := hv
  have hx := B.exec
  have hb := B.bytes
  have hr := B.returns
  have hts := atoms_spec (ws := wsX3_move) B.pre
  have hown : s.vm.findClass RX3 = some m.cls := findClass_of_methodNamed B.named
  have hlocks := B.notSynchronized
  subst hsz
  have hD := hD0.self (sz := s.heap.size)
  generalize hAe : va_A (kv_mw ci md th nw co ho ve la pr rg rp rm rc re ro rl cn tn tk sp ba) s.heap.size = A at hD ⊢
  have hA : ∀ q : Nat, s.heap.size ≤ q → A q := fun q h => by rw [← hAe]; exact Or.inr h
  have hS : va_S A s.heap s.heap [] := va_S.rf
  have hP : va_P D vwCl (kv_mw ci md th nw co ho ve la pr rg rp rm rc re ro rl cn tn tk sp ba) s.heap := hP
  have hinRX3 : ∀ w ∈ u_ws RX3 TX3 19, w ∈ wsX3_move := by decide +kernel
  generalize hRd : pf_X3_move p0 p1 th ho = Rz at hRn
  have hRz := hRn
  refine kv_Q (fun Q hQ => ?_)
  refine W.eq (show entryFrame m args 4 = _ from by rw [hv0, lg_entry_eq]) ?_
  have hl := lv_entry ([.ref (md 0), .int p0, .int p1]) (n := 4) (Nat.le_of_ble_eq_true rfl)
  generalize (lg_sl ([.ref (md 0), .int p0, .int p1]) ++ List.replicate (4 - (lg_sl ([.ref (md 0), .int p0, .int p1])).length) Slot.unset).toArray = ls at hl ⊢
  have hl : lv_has ls 4 [(0, .ref (md 0)), (1, .int p0), (2, .int p1)] := hl
  have e : Rz = pf_X3_move p0 p1 th ho := hRd.symm
  rw [pf_X3_move] at e
  refine lv_aload_n hx hb dX3_move_0 rfl (lv_at hl 0 rfl) ?_
  refine lv_aload_n hx hb dX3_move_1 rfl (lv_at hl 0 rfl) ?_
  refine lv_iload_n hx hb dX3_move_2 rfl (lv_at hl 1 rfl) ?_
  refine lv_iload_n hx hb dX3_move_3 rfl (lv_at hl 2 rfl) ?_
  refine kv_calli (va_runV (As := [.int p0, .int p1]) (rest := [.ref (md 0)]) ⟨hx, hb, hml, hown, hts⟩ (c_X3_refuses l D ci md th nw co ho ve la pr rg rp rm rc re ro rl cn tn tk sp ba p0 p1 (kv_q1_n e hRz) s.heap.size) (cwV 2 hts gX3_move_X3_refuses rfl rfl rfl (by decide +kernel) ⟨Nat.le_of_ble_eq_true rfl, Nat.le_of_ble_eq_true rfl⟩) (kv_preV hK hP hD (r := (RX3, TX3, 19)) (q0 := 0) (k := 4) rfl rfl rfl) rfl rfl hl.1 rfl (lv_room (Nat.le_of_ble_eq_true rfl)) dX3_move_4 ⟨Nat.le_of_ble_eq_true rfl, Nat.le_of_ble_eq_true rfl⟩) hD hS hA (fun r_4 u_4 H locs hw_4 hP hD hS => ?_)
  have e := kv_q1_e e hw_4
  refine va_put (D := D) (ci := 4) (v := .int r_4) (ty := .int) (C := RX3) (T := TX3) (N := 19) hx hb hts hinRX3 tyX3 tyX3_ok nmX3 hown hK hP hD hS 0 rfl rfl 0 (by decide) (hts (.fieldLink RX3 56 "LicenceKeeperModel" "thrown" "I") (by decide +kernel)) (fun _ h9 => h9) rfl (by decide +kernel) rfl rfl (Nat.le_of_ble_eq_true rfl) dX3_move_7 (fun H locs hP hD hS => ?_)
  have hP : va_P D vwCl (kv_mw ci md r_4 nw co ho ve la pr rg rp rm rc re ro rl cn tn tk sp ba) H := hP
  have hD : va_D A (kv_mw ci md r_4 nw co ho ve la pr rg rp rm rc re ro rl cn tn tk sp ba) := hD
  refine lv_aload_n hx hb dX3_move_10 rfl (lv_at hl 0 rfl) ?_
  refine va_get (D := D) (ci := 4) (v := .int r_4) (C := RX3) (T := TX3) (N := 19) hx hb hts hinRX3 hown hK hP 0 rfl rfl 0 (by decide) (hts (.fieldLink RX3 56 "LicenceKeeperModel" "thrown" "I") (by decide +kernel)) (fun _ h9 => h9) rfl dX3_move_11 ?_
  refine lv_if_le (tgt := 19) hx hb dX3_move_14 (by decide) (fun c_14 => ?_) (fun c_14 => ?_)
  · have e := e.trans (if_pos c_14)
    refine lv_aload_n hx hb dX3_move_19 rfl (lv_at hl 0 rfl) ?_
    refine va_get (D := D) (ci := 4) (v := .ref (md 2)) (C := RX3) (T := TX3) (N := 19) hx hb hts hinRX3 hown hK hP 0 rfl rfl 3 (by decide) (hts (.fieldLink RX3 13 "LicenceKeeperModel" "host" "[I") (by decide +kernel)) (fun _ h9 => h9) rfl dX3_move_20 ?_
    refine lv_iload_n hx hb dX3_move_23 rfl (lv_at hl 1 rfl) ?_
    obtain ⟨hi_24, e⟩ := kv_G_e e hRz
    refine kv_iald hx hb hK hP 2 0 hi_24 dX3_move_24 rfl rfl (fun y_24 ey_24 => ?_)
    have e := kv_T_e e ey_24
    refine lv_istore_n (lv' := [(3, .int y_24), (0, .ref (md 0)), (1, .int p0), (2, .int p1)]) hx hb dX3_move_25 rfl hl (by decide) rfl (fun ls hl => ?_)
    refine lv_aload_n hx hb dX3_move_26 rfl (lv_at hl 1 rfl) ?_
    refine va_get (D := D) (ci := 4) (v := .ref (md 2)) (C := RX3) (T := TX3) (N := 19) hx hb hts hinRX3 hown hK hP 0 rfl rfl 3 (by decide) (hts (.fieldLink RX3 13 "LicenceKeeperModel" "host" "[I") (by decide +kernel)) (fun _ h9 => h9) rfl dX3_move_27 ?_
    refine lv_iload_n hx hb dX3_move_30 rfl (lv_at hl 2 rfl) ?_
    refine lv_iload_n hx hb dX3_move_31 rfl (lv_at hl 3 rfl) ?_
    obtain ⟨hi_32, e⟩ := kv_G_e e hRz
    refine kv_iast hx hb hK hP hD hS 2 0 (fun g_32 => (kv_mw ci md r_4 nw co g_32 ve la pr rg rp rm rc re ro rl cn tn tk sp ba)) hi_32 dX3_move_32 rfl rfl (fun _ => rfl) (fun g_32 H locs eg_32 hP hD hS => ?_)
    have e := kv_T_e e eg_32
    refine lv_iload_n hx hb dX3_move_33 rfl (lv_at hl 0 rfl) ?_
    rw [hQ]
    exact W.iret (v := y_24) hx hb hr (fun t ht hW => ⟨⟨y_24, (r_4, g_32), rfl, e, ⟨by rw [ht]; exact hP, by rw [hAe]; exact hD⟩⟩, hS.F ht⟩) hS.2.2 dX3_move_34
  · have e := e.trans (if_neg c_14)
    refine lv_iconst (v := 0) hx hb dX3_move_17 (by decide) ?_
    rw [hQ]
    exact W.iret (v := 0) hx hb hr (fun t ht hW => ⟨⟨0, (r_4, ho), rfl, e, ⟨by rw [ht]; exact hP, by rw [hAe]; exact hD⟩⟩, hS.F ht⟩) hS.2.2 dX3_move_18

def pf_X3_find_19 (la : Nat → Int32) (p0 : Int32) (p1 : Int32) (p2 : Int32)   (th : Int32) (ve : Nat → Int32) : Option (Int32 × Int32 × (Nat → Int32)) :=
  kv_q2 (pf_X3_fails 1 th) (fun r_21 u_21 => some (r_21, u_21, ve))
def pf_X3_find (la : Nat → Int32) (p0 : Int32) (p1 : Int32) (p2 : Int32) (th : Int32) (ve : Nat → Int32) : Option (Int32 × Int32 × (Nat → Int32)) :=
  kv_q1 (pf_X3_isMachine p0) (fun r_6 => if r_6 = 0 then pf_X3_find_19 la p0 p1 p2 0 ve else kv_q1 (pf_X3_isProduct p1) (fun r_13 => if r_13 = 0 then pf_X3_find_19 la p0 p1 p2 0 ve else kv_G p1 4 (kv_T (la p1.toNatClampNeg) (fun y_32 => kv_q1 (pf_X3_in p2 0 y_32) (fun r_33 => if r_33 = 0 then kv_q2 (pf_X3_fails 2 0) (fun r_41 u_41 => some (r_41, u_41, ve)) else kv_G ((4 * p0) + p1) 32 (kv_T (ve ((4 * p0) + p1).toNatClampNeg) (fun y_54 => kv_G ((4 * p0) + p1) 32 (kv_T (upd ve ((4 * p0) + p1).toNatClampNeg p2) (fun g_67 => some (y_54, 0, g_67))))))))))
abbrev rmX3_find : Room := { frames := 2, cells := 0, slots := 0, locals := 42 }
set_option maxHeartbeats 4000000 in
set_option maxRecDepth 100000 in
theorem c_X3_find (l : Launch) (D : va_G) (ci md : Nat → Nat) (th : Int32) (nw : Int32) (co : Nat → Int32) (ho : Nat → Int32) (ve : Nat → Int32) (la : Nat → Int32) (pr : Nat → Int32) (rg : Int32) (rp : Nat → Int32) (rm : Nat → Int32) (rc : Nat → Int32) (re : Nat → Int32) (ro : Nat → Int32) (rl : Nat → Int32) (cn : Nat → Int32) (tn : Nat → Int32) (tk : Nat → Int32) (sp : Nat → Int32) (ba : Int32) (p0 : Int32) (p1 : Int32) (p2 : Int32)  (hRn : pf_X3_find la p0 p1 p2 th ve ≠ none) (sz : Nat) : Met l yX3_find wsX3_find rmX3_find (va_Pc [.ref (md 0), .int p0, .int p1, .int p2] (kv_pre D ci (kv_mw ci md th nw co ho ve la pr rg rp rm rc re ro rl cn tn tk sp ba) sz)) (va_Qi (fun (r : Int32) (u : Int32 × (Nat → Int32)) => pf_X3_find la p0 p1 p2 th ve = some (r, u)) (fun u t => kv_post D (kv_mw ci md th nw co ho ve la pr rg rp rm rc re ro rl cn tn tk sp ba) sz (kv_mw ci md u.1 nw co ho u.2 la pr rg rp rm rc re ro rl cn tn tk sp ba) t) (va_A (kv_mw ci md th nw co ho ve la pr rg rp rm rc re ro rl cn tn tk sp ba) sz)) 0 0 (va_A (kv_mw ci md th nw co ho ve la pr rg rp rm rc re ro rl cn tn tk sp ba) sz) := by
  refine Met.ofW (cc := cX3_find) (maxL := 5) (ret := (some .int)) (by decide) rfl ?_
  intro p en s m args below meth c s₁ B hml hv
  obtain ⟨hv0, hsz, hP, hK, hD0⟩ := hv
  have hx := B.exec
  have hb := B.bytes
  have hr := B.returns
  have hts := atoms_spec (ws := wsX3_find) B.pre
  have hown : s.vm.findClass RX3 = some m.cls := findClass_of_methodNamed B.named
  have hlocks := B.notSynchronized
  subst hsz
  have hD := hD0.self (sz := s.heap.size)
  generalize hAe : va_A (kv_mw ci md th nw co ho ve la pr rg rp rm rc re ro rl cn tn tk sp ba) s.heap.size = A at hD ⊢
  have hA : ∀ q : Nat, s.heap.size ≤ q → A q := fun q h => by rw [← hAe]; exact Or.inr h
  have hS : va_S A s.heap s.heap [] := va_S.rf
  have hP : va_P D vwCl (kv_mw ci md th nw co ho ve la pr rg rp rm rc re ro rl cn tn tk sp ba) s.heap := hP
  have hinRX3 : ∀ w ∈ u_ws RX3 TX3 19, w ∈ wsX3_find := by decide +kernel
  generalize hRd : pf_X3_find la p0 p1 p2 th ve = Rz at hRn
  have hRz := hRn
  refine kv_Q (fun Q hQ => ?_)
  refine W.eq (show entryFrame m args 5 = _ from by rw [hv0, lg_entry_eq]) ?_
  have hl := lv_entry ([.ref (md 0), .int p0, .int p1, .int p2]) (n := 5) (Nat.le_of_ble_eq_true rfl)
  generalize (lg_sl ([.ref (md 0), .int p0, .int p1, .int p2]) ++ List.replicate (5 - (lg_sl ([.ref (md 0), .int p0, .int p1, .int p2])).length) Slot.unset).toArray = ls at hl ⊢
  have hl : lv_has ls 5 [(0, .ref (md 0)), (1, .int p0), (2, .int p1), (3, .int p2)] := hl
  have e : Rz = pf_X3_find la p0 p1 p2 th ve := hRd.symm
  rw [pf_X3_find] at e
  have hb_19 : ∀ (th : Int32) (ve : Nat → Int32) (H : Heap) (locs : List Loc) (ls : Array Slot), va_P D vwCl (kv_mw ci md th nw co ho ve la pr rg rp rm rc re ro rl cn tn tk sp ba) H → va_D A (kv_mw ci md th nw co ho ve la pr rg rp rm rc re ro rl cn tn tk sp ba) → va_S A s.heap H locs → lv_has ls 5 [(0, .ref (md 0))] → Rz = pf_X3_find_19 la p0 p1 p2  th ve → W p l en rmX3_find s m args below meth c H locs 0 0 Q (F0 m 19 ls []) := by
    intro th ve H locs ls  hP hD hS hl e
    rw [pf_X3_find_19] at e
    refine lv_aload_n hx hb dX3_find_19 rfl (lv_at hl 0 rfl) ?_
    refine lv_iconst (v := 1) hx hb dX3_find_20 (by decide) ?_
    refine kv_calli (va_runV (As := [.int 1]) (rest := []) ⟨hx, hb, hml, hown, hts⟩ (c_X3_fails l D ci md th nw co ho ve la pr rg rp rm rc re ro rl cn tn tk sp ba 1 (kv_q2_n e hRz) H.size) (cwV 1 hts gX3_find_X3_fails rfl rfl rfl (by decide +kernel) ⟨Nat.le_of_ble_eq_true rfl, Nat.le_of_ble_eq_true rfl⟩) (kv_preV hK hP hD (r := (RX3, TX3, 19)) (q0 := 0) (k := 4) rfl rfl rfl) rfl rfl hl.1 rfl (lv_room (Nat.le_of_ble_eq_true rfl)) dX3_find_21 ⟨Nat.le_of_ble_eq_true rfl, Nat.le_of_ble_eq_true rfl⟩) hD hS hA (fun r_21 u_21 H locs hw_21 hP hD hS => ?_)
    have e := kv_q2_e e hw_21
    have hP : va_P D vwCl (kv_mw ci md u_21 nw co ho ve la pr rg rp rm rc re ro rl cn tn tk sp ba) H := hP
    have hD : va_D A (kv_mw ci md u_21 nw co ho ve la pr rg rp rm rc re ro rl cn tn tk sp ba) := hD
    rw [hQ]
    exact W.iret (v := r_21) hx hb hr (fun t ht hW => ⟨⟨r_21, (u_21, ve), rfl, e, ⟨by rw [ht]; exact hP, by rw [hAe]; exact hD⟩⟩, hS.F ht⟩) hS.2.2 dX3_find_24
  refine lv_aload_n hx hb dX3_find_0 rfl (lv_at hl 0 rfl) ?_
  refine lv_iconst (v := 0) hx hb dX3_find_1 (by decide) ?_
  refine va_put (D := D) (ci := 4) (v := .int 0) (ty := .int) (C := RX3) (T := TX3) (N := 19) hx hb hts hinRX3 tyX3 tyX3_ok nmX3 hown hK hP hD hS 0 rfl rfl 0 (by decide) (hts (.fieldLink RX3 56 "LicenceKeeperModel" "thrown" "I") (by decide +kernel)) (fun _ h9 => h9) rfl (by decide +kernel) rfl rfl (Nat.le_of_ble_eq_true rfl) dX3_find_2 (fun H locs hP hD hS => ?_)
  have hP : va_P D vwCl (kv_mw ci md 0 nw co ho ve la pr rg rp rm rc re ro rl cn tn tk sp ba) H := hP
  have hD : va_D A (kv_mw ci md 0 nw co ho ve la pr rg rp rm rc re ro rl cn tn tk sp ba) := hD
  refine lv_iload_n hx hb dX3_find_5 rfl (lv_at hl 1 rfl) ?_
  refine kv_calli (va_runS (As := [.int p0]) (rest := []) ⟨hx, hb, hml, hown, hts⟩ (c_X3_isMachine l D ci md 0 nw co ho ve la pr rg rp rm rc re ro rl cn tn tk sp ba p0 (kv_q1_n e hRz) H.size) (va_cwS 1 hts gX3_find_X3_isMachine rfl rfl rfl (by decide +kernel) ⟨Nat.le_of_ble_eq_true rfl, Nat.le_of_ble_eq_true rfl⟩) (kv_preS hK hP hD) rfl rfl hl.1 rfl (lv_room (Nat.le_of_ble_eq_true rfl)) dX3_find_6 ⟨Nat.le_of_ble_eq_true rfl, Nat.le_of_ble_eq_true rfl⟩) hD hS hA (fun r_6 u_6 H locs hw_6 hP hD hS => ?_)
  have e := kv_q1_e e hw_6
  refine lv_if_eq (tgt := 19) hx hb dX3_find_9 (by decide) (fun c_9 => ?_) (fun c_9 => ?_)
  · have e := e.trans (if_pos c_9)
    exact hb_19 0 ve  _ _ _ hP hD hS (lv_sub hl [0] rfl) e
  · have e := e.trans (if_neg c_9)
    refine lv_iload_n hx hb dX3_find_12 rfl (lv_at hl 2 rfl) ?_
    refine kv_calli (va_runS (As := [.int p1]) (rest := []) ⟨hx, hb, hml, hown, hts⟩ (c_X3_isProduct l D ci md 0 nw co ho ve la pr rg rp rm rc re ro rl cn tn tk sp ba p1 (kv_q1_n e hRz) H.size) (va_cwS 1 hts gX3_find_X3_isProduct rfl rfl rfl (by decide +kernel) ⟨Nat.le_of_ble_eq_true rfl, Nat.le_of_ble_eq_true rfl⟩) (kv_preS hK hP hD) rfl rfl hl.1 rfl (lv_room (Nat.le_of_ble_eq_true rfl)) dX3_find_13 ⟨Nat.le_of_ble_eq_true rfl, Nat.le_of_ble_eq_true rfl⟩) hD hS hA (fun r_13 u_13 H locs hw_13 hP hD hS => ?_)
    have e := kv_q1_e e hw_13
    refine lv_if_ne (tgt := 25) hx hb dX3_find_16 (by decide) (fun c_16 => ?_) (fun c_16 => ?_)
    · have e := e.trans (if_neg c_16)
      refine lv_iload_n hx hb dX3_find_25 rfl (lv_at hl 3 rfl) ?_
      refine lv_iconst (v := 0) hx hb dX3_find_26 (by decide) ?_
      refine lv_aload_n hx hb dX3_find_27 rfl (lv_at hl 0 rfl) ?_
      refine va_get (D := D) (ci := 4) (v := .ref (md 4)) (C := RX3) (T := TX3) (N := 19) hx hb hts hinRX3 hown hK hP 0 rfl rfl 5 (by decide) (hts (.fieldLink RX3 19 "LicenceKeeperModel" "latest" "[I") (by decide +kernel)) (fun _ h9 => h9) rfl dX3_find_28 ?_
      refine lv_iload_n hx hb dX3_find_31 rfl (lv_at hl 2 rfl) ?_
      obtain ⟨hi_32, e⟩ := kv_G_e e hRz
      refine kv_iald hx hb hK hP 4 0 hi_32 dX3_find_32 rfl rfl (fun y_32 ey_32 => ?_)
      have e := kv_T_e e ey_32
      refine kv_calli (va_runS (As := [.int p2, .int 0, .int y_32]) (rest := []) ⟨hx, hb, hml, hown, hts⟩ (c_X3_in l D ci md 0 nw co ho ve la pr rg rp rm rc re ro rl cn tn tk sp ba p2 0 y_32 (kv_q1_n e hRz) H.size) (va_cwS 3 hts gX3_find_X3_in rfl rfl rfl (by decide +kernel) ⟨Nat.le_of_ble_eq_true rfl, Nat.le_of_ble_eq_true rfl⟩) (kv_preS hK hP hD) rfl rfl hl.1 rfl (lv_room (Nat.le_of_ble_eq_true rfl)) dX3_find_33 ⟨Nat.le_of_ble_eq_true rfl, Nat.le_of_ble_eq_true rfl⟩) hD hS hA (fun r_33 u_33 H locs hw_33 hP hD hS => ?_)
      have e := kv_q1_e e hw_33
      refine lv_if_ne (tgt := 45) hx hb dX3_find_36 (by decide) (fun c_36 => ?_) (fun c_36 => ?_)
      · have e := e.trans (if_neg c_36)
        refine lv_aload_n hx hb dX3_find_45 rfl (lv_at hl 0 rfl) ?_
        refine va_get (D := D) (ci := 4) (v := .ref (md 3)) (C := RX3) (T := TX3) (N := 19) hx hb hts hinRX3 hown hK hP 0 rfl rfl 4 (by decide) (hts (.fieldLink RX3 16 "LicenceKeeperModel" "version" "[I") (by decide +kernel)) (fun _ h9 => h9) rfl dX3_find_46 ?_
        refine lv_iconst (v := 4) hx hb dX3_find_49 (by decide) ?_
        refine lv_iload_n hx hb dX3_find_50 rfl (lv_at hl 1 rfl) ?_
        refine lv_imul hx hb dX3_find_51 ?_
        refine lv_iload_n hx hb dX3_find_52 rfl (lv_at hl 2 rfl) ?_
        refine lv_iadd hx hb dX3_find_53 ?_
        obtain ⟨hi_54, e⟩ := kv_G_e e hRz
        refine kv_iald hx hb hK hP 3 0 hi_54 dX3_find_54 rfl rfl (fun y_54 ey_54 => ?_)
        have e := kv_T_e e ey_54
        refine lv_istore (lv' := [(4, .int y_54), (0, .ref (md 0)), (1, .int p0), (2, .int p1), (3, .int p2)]) hx hb dX3_find_55 hl (by decide) rfl (fun ls hl => ?_)
        refine lv_aload_n hx hb dX3_find_57 rfl (lv_at hl 1 rfl) ?_
        refine va_get (D := D) (ci := 4) (v := .ref (md 3)) (C := RX3) (T := TX3) (N := 19) hx hb hts hinRX3 hown hK hP 0 rfl rfl 4 (by decide) (hts (.fieldLink RX3 16 "LicenceKeeperModel" "version" "[I") (by decide +kernel)) (fun _ h9 => h9) rfl dX3_find_58 ?_
        refine lv_iconst (v := 4) hx hb dX3_find_61 (by decide) ?_
        refine lv_iload_n hx hb dX3_find_62 rfl (lv_at hl 2 rfl) ?_
        refine lv_imul hx hb dX3_find_63 ?_
        refine lv_iload_n hx hb dX3_find_64 rfl (lv_at hl 3 rfl) ?_
        refine lv_iadd hx hb dX3_find_65 ?_
        refine lv_iload_n hx hb dX3_find_66 rfl (lv_at hl 4 rfl) ?_
        obtain ⟨hi_67, e⟩ := kv_G_e e hRz
        refine kv_iast hx hb hK hP hD hS 3 0 (fun g_67 => (kv_mw ci md 0 nw co ho g_67 la pr rg rp rm rc re ro rl cn tn tk sp ba)) hi_67 dX3_find_67 rfl rfl (fun _ => rfl) (fun g_67 H locs eg_67 hP hD hS => ?_)
        have e := kv_T_e e eg_67
        refine lv_iload hx hb dX3_find_68 (lv_at hl 0 rfl) ?_
        rw [hQ]
        exact W.iret (v := y_54) hx hb hr (fun t ht hW => ⟨⟨y_54, (0, g_67), rfl, e, ⟨by rw [ht]; exact hP, by rw [hAe]; exact hD⟩⟩, hS.F ht⟩) hS.2.2 dX3_find_70
      · have e := e.trans (if_pos c_36)
        refine lv_aload_n hx hb dX3_find_39 rfl (lv_at hl 0 rfl) ?_
        refine lv_iconst (v := 2) hx hb dX3_find_40 (by decide) ?_
        refine kv_calli (va_runV (As := [.int 2]) (rest := []) ⟨hx, hb, hml, hown, hts⟩ (c_X3_fails l D ci md 0 nw co ho ve la pr rg rp rm rc re ro rl cn tn tk sp ba 2 (kv_q2_n e hRz) H.size) (cwV 1 hts gX3_find_X3_fails rfl rfl rfl (by decide +kernel) ⟨Nat.le_of_ble_eq_true rfl, Nat.le_of_ble_eq_true rfl⟩) (kv_preV hK hP hD (r := (RX3, TX3, 19)) (q0 := 0) (k := 4) rfl rfl rfl) rfl rfl hl.1 rfl (lv_room (Nat.le_of_ble_eq_true rfl)) dX3_find_41 ⟨Nat.le_of_ble_eq_true rfl, Nat.le_of_ble_eq_true rfl⟩) hD hS hA (fun r_41 u_41 H locs hw_41 hP hD hS => ?_)
        have e := kv_q2_e e hw_41
        have hP : va_P D vwCl (kv_mw ci md u_41 nw co ho ve la pr rg rp rm rc re ro rl cn tn tk sp ba) H := hP
        have hD : va_D A (kv_mw ci md u_41 nw co ho ve la pr rg rp rm rc re ro rl cn tn tk sp ba) := hD
        rw [hQ]
        exact W.iret (v := r_41) hx hb hr (fun t ht hW => ⟨⟨r_41, (u_41, ve), rfl, e, ⟨by rw [ht]; exact hP, by rw [hAe]; exact hD⟩⟩, hS.F ht⟩) hS.2.2 dX3_find_44
    · have e := e.trans (if_pos c_16)
      exact hb_19 0 ve  _ _ _ hP hD hS (lv_sub hl [0] rfl) e
end
