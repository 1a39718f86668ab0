section
-- ===== PART A: goes FIRST, ahead of the names: the tables' words, and 'selects' of the private methods out of them =====
/-- a private method of a class that the tables say can be made, by its rows of tables_1 -/
def lw_okq (q : MethodName × Nat) : Prop := (q.1.cls ≠ "java/lang/invoke/MethodHandle" ∧ q.1.cls ≠ "java/lang/invoke/VarHandle") ∧ Cond.instantiable q.1.cls q.2 ∈ tables_1 ∧ Cond.privateMethod q.1 ∈ tables_1 ∧ Cond.instanceMethod q.1 ∈ tables_1
theorem lw_p0 : lw_okq (⟨"FingerPosts", "digestOfWood", "(JLFingerPosts$Villages;)J"⟩, 4) := ⟨⟨by decide +kernel, by decide +kernel⟩, List.mem_of_getElem? (i := 15) (by decide +kernel), List.mem_of_getElem? (i := 95) (by decide +kernel), List.mem_of_getElem? (i := 96) (by decide +kernel)⟩
theorem lw_p1 : lw_okq (⟨"FingerPosts$Signs", "begin", "(IIIII)V"⟩, 10) := ⟨⟨by decide +kernel, by decide +kernel⟩, List.mem_of_getElem? (i := 40) (by decide +kernel), List.mem_of_getElem? (i := 107) (by decide +kernel), List.mem_of_getElem? (i := 108) (by decide +kernel)⟩
theorem lw_p2 : lw_okq (⟨"FingerPosts$Signs", "fillAt", "(ILFingerPosts$Villages;)V"⟩, 10) := ⟨⟨by decide +kernel, by decide +kernel⟩, List.mem_of_getElem? (i := 40) (by decide +kernel), List.mem_of_getElem? (i := 114) (by decide +kernel), List.mem_of_getElem? (i := 115) (by decide +kernel)⟩
theorem lw_p3 : lw_okq (⟨"FingerPosts$Signs", "fillSides", "(ILFingerPosts$Villages;)V"⟩, 10) := ⟨⟨by decide +kernel, by decide +kernel⟩, List.mem_of_getElem? (i := 40) (by decide +kernel), List.mem_of_getElem? (i := 129) (by decide +kernel), List.mem_of_getElem? (i := 130) (by decide +kernel)⟩
theorem lw_p4 : lw_okq (⟨"FingerPosts$Signs", "isPost", "(I)Z"⟩, 10) := ⟨⟨by decide +kernel, by decide +kernel⟩, List.mem_of_getElem? (i := 40) (by decide +kernel), List.mem_of_getElem? (i := 144) (by decide +kernel), List.mem_of_getElem? (i := 145) (by decide +kernel)⟩
theorem lw_p5 : lw_okq (⟨"FingerPosts", "fillBoth", "()V"⟩, 4) := ⟨⟨by decide +kernel, by decide +kernel⟩, List.mem_of_getElem? (i := 15) (by decide +kernel), List.mem_of_getElem? (i := 195) (by decide +kernel), List.mem_of_getElem? (i := 196) (by decide +kernel)⟩
theorem lw_p6 : lw_okq (⟨"FingerPosts$Villages", "makeRoomAt", "(I)V"⟩, 3) := ⟨⟨by decide +kernel, by decide +kernel⟩, List.mem_of_getElem? (i := 23) (by decide +kernel), List.mem_of_getElem? (i := 216) (by decide +kernel), List.mem_of_getElem? (i := 217) (by decide +kernel)⟩
theorem lw_p7 : lw_okq (⟨"java/lang/Throwable", "fillInStackTrace", "(I)Ljava/lang/Throwable;"⟩, 6) := ⟨⟨by decide +kernel, by decide +kernel⟩, List.mem_of_getElem? (i := 275) (by decide +kernel), List.mem_of_getElem? (i := 273) (by decide +kernel), List.mem_of_getElem? (i := 274) (by decide +kernel)⟩
theorem lw_p8 : lw_okq (⟨"FingerPosts", "villagesOf", "(I)LFingerPosts$Villages;"⟩, 4) := ⟨⟨by decide +kernel, by decide +kernel⟩, List.mem_of_getElem? (i := 15) (by decide +kernel), List.mem_of_getElem? (i := 329) (by decide +kernel), List.mem_of_getElem? (i := 330) (by decide +kernel)⟩
theorem lw_p9 : lw_okq (⟨"FingerPosts", "otherThan", "(I)LFingerPosts$Villages;"⟩, 4) := ⟨⟨by decide +kernel, by decide +kernel⟩, List.mem_of_getElem? (i := 15) (by decide +kernel), List.mem_of_getElem? (i := 373) (by decide +kernel), List.mem_of_getElem? (i := 374) (by decide +kernel)⟩
theorem lw_p10 : lw_okq (⟨"FingerPosts$Signs", "placeBy", "(I)I"⟩, 10) := ⟨⟨by decide +kernel, by decide +kernel⟩, List.mem_of_getElem? (i := 40) (by decide +kernel), List.mem_of_getElem? (i := 447) (by decide +kernel), List.mem_of_getElem? (i := 448) (by decide +kernel)⟩
theorem lw_p11 : lw_okq (⟨"FingerPostsModel", "no", "(I)I"⟩, 13) := ⟨⟨by decide +kernel, by decide +kernel⟩, List.mem_of_getElem? (i := 528) (by decide +kernel), List.mem_of_getElem? (i := 588) (by decide +kernel), List.mem_of_getElem? (i := 589) (by decide +kernel)⟩
theorem lw_p12 : lw_okq (⟨"FingerPostsModel", "isThere", "(II)Z"⟩, 13) := ⟨⟨by decide +kernel, by decide +kernel⟩, List.mem_of_getElem? (i := 528) (by decide +kernel), List.mem_of_getElem? (i := 596) (by decide +kernel), List.mem_of_getElem? (i := 597) (by decide +kernel)⟩
theorem lw_p13 : lw_okq (⟨"FingerPostsModel", "smaller", "(II)I"⟩, 13) := ⟨⟨by decide +kernel, by decide +kernel⟩, List.mem_of_getElem? (i := 528) (by decide +kernel), List.mem_of_getElem? (i := 600) (by decide +kernel), List.mem_of_getElem? (i := 601) (by decide +kernel)⟩
theorem lw_p14 : lw_okq (⟨"FingerPostsModel", "insert", "(III)V"⟩, 13) := ⟨⟨by decide +kernel, by decide +kernel⟩, List.mem_of_getElem? (i := 528) (by decide +kernel), List.mem_of_getElem? (i := 604) (by decide +kernel), List.mem_of_getElem? (i := 605) (by decide +kernel)⟩
theorem lw_p15 : lw_okq (⟨"FingerPostsModel", "remove", "(II)I"⟩, 13) := ⟨⟨by decide +kernel, by decide +kernel⟩, List.mem_of_getElem? (i := 528) (by decide +kernel), List.mem_of_getElem? (i := 615) (by decide +kernel), List.mem_of_getElem? (i := 616) (by decide +kernel)⟩
def lw_privs_1 : List (MethodName × Nat) := [(⟨"FingerPosts", "digestOfWood", "(JLFingerPosts$Villages;)J"⟩, 4), (⟨"FingerPosts$Signs", "begin", "(IIIII)V"⟩, 10), (⟨"FingerPosts$Signs", "fillAt", "(ILFingerPosts$Villages;)V"⟩, 10), (⟨"FingerPosts$Signs", "fillSides", "(ILFingerPosts$Villages;)V"⟩, 10), (⟨"FingerPosts$Signs", "isPost", "(I)Z"⟩, 10), (⟨"FingerPosts", "fillBoth", "()V"⟩, 4), (⟨"FingerPosts$Villages", "makeRoomAt", "(I)V"⟩, 3), (⟨"java/lang/Throwable", "fillInStackTrace", "(I)Ljava/lang/Throwable;"⟩, 6), (⟨"FingerPosts", "villagesOf", "(I)LFingerPosts$Villages;"⟩, 4), (⟨"FingerPosts", "otherThan", "(I)LFingerPosts$Villages;"⟩, 4), (⟨"FingerPosts$Signs", "placeBy", "(I)I"⟩, 10), (⟨"FingerPostsModel", "no", "(I)I"⟩, 13), (⟨"FingerPostsModel", "isThere", "(II)Z"⟩, 13), (⟨"FingerPostsModel", "smaller", "(II)I"⟩, 13), (⟨"FingerPostsModel", "insert", "(III)V"⟩, 13), (⟨"FingerPostsModel", "remove", "(II)I"⟩, 13)]
theorem lw_r1 : ∀ q ∈ lw_privs_1, lw_okq q := List.forall_mem_cons.mpr ⟨lw_p0, List.forall_mem_cons.mpr ⟨lw_p1, List.forall_mem_cons.mpr ⟨lw_p2, List.forall_mem_cons.mpr ⟨lw_p3, List.forall_mem_cons.mpr ⟨lw_p4, List.forall_mem_cons.mpr ⟨lw_p5, List.forall_mem_cons.mpr ⟨lw_p6, List.forall_mem_cons.mpr ⟨lw_p7, List.forall_mem_cons.mpr ⟨lw_p8, List.forall_mem_cons.mpr ⟨lw_p9, List.forall_mem_cons.mpr ⟨lw_p10, List.forall_mem_cons.mpr ⟨lw_p11, List.forall_mem_cons.mpr ⟨lw_p12, List.forall_mem_cons.mpr ⟨lw_p13, List.forall_mem_cons.mpr ⟨lw_p14, List.forall_mem_cons.mpr ⟨lw_p15, fun _ h => absurd h List.not_mem_nil⟩⟩⟩⟩⟩⟩⟩⟩⟩⟩⟩⟩⟩⟩⟩⟩
theorem lw_p16 : lw_okq (⟨"FingerPostsModel", "common", "()I"⟩, 13) := ⟨⟨by decide +kernel, by decide +kernel⟩, List.mem_of_getElem? (i := 528) (by decide +kernel), List.mem_of_getElem? (i := 623) (by decide +kernel), List.mem_of_getElem? (i := 624) (by decide +kernel)⟩
theorem lw_p17 : lw_okq (⟨"FingerPostsModel", "counted", "(II)I"⟩, 13) := ⟨⟨by decide +kernel, by decide +kernel⟩, List.mem_of_getElem? (i := 528) (by decide +kernel), List.mem_of_getElem? (i := 647) (by decide +kernel), List.mem_of_getElem? (i := 648) (by decide +kernel)⟩
theorem lw_p18 : lw_okq (⟨"FingerPostsModel", "look", "(I)V"⟩, 13) := ⟨⟨by decide +kernel, by decide +kernel⟩, List.mem_of_getElem? (i := 528) (by decide +kernel), List.mem_of_getElem? (i := 651) (by decide +kernel), List.mem_of_getElem? (i := 652) (by decide +kernel)⟩
theorem lw_p19 : lw_okq (⟨"FingerPostsModel", "makeSigns", "()V"⟩, 13) := ⟨⟨by decide +kernel, by decide +kernel⟩, List.mem_of_getElem? (i := 528) (by decide +kernel), List.mem_of_getElem? (i := 655) (by decide +kernel), List.mem_of_getElem? (i := 656) (by decide +kernel)⟩
theorem lw_p20 : lw_okq (⟨"FingerPostsModel", "part", "(III)I"⟩, 13) := ⟨⟨by decide +kernel, by decide +kernel⟩, List.mem_of_getElem? (i := 528) (by decide +kernel), List.mem_of_getElem? (i := 659) (by decide +kernel), List.mem_of_getElem? (i := 660) (by decide +kernel)⟩
theorem lw_p21 : lw_okq (⟨"FingerPostsModel", "longest", "()I"⟩, 13) := ⟨⟨by decide +kernel, by decide +kernel⟩, List.mem_of_getElem? (i := 528) (by decide +kernel), List.mem_of_getElem? (i := 671) (by decide +kernel), List.mem_of_getElem? (i := 672) (by decide +kernel)⟩
theorem lw_p22 : lw_okq (⟨"FingerPostsModel", "allPaths", "()I"⟩, 13) := ⟨⟨by decide +kernel, by decide +kernel⟩, List.mem_of_getElem? (i := 528) (by decide +kernel), List.mem_of_getElem? (i := 675) (by decide +kernel), List.mem_of_getElem? (i := 676) (by decide +kernel)⟩
theorem lw_p23 : lw_okq (⟨"FingerPostsModel", "bitsOfPosts", "()I"⟩, 13) := ⟨⟨by decide +kernel, by decide +kernel⟩, List.mem_of_getElem? (i := 528) (by decide +kernel), List.mem_of_getElem? (i := 682) (by decide +kernel), List.mem_of_getElem? (i := 683) (by decide +kernel)⟩
theorem lw_p24 : lw_okq (⟨"FingerPostsModel", "signTold", "(II)I"⟩, 13) := ⟨⟨by decide +kernel, by decide +kernel⟩, List.mem_of_getElem? (i := 528) (by decide +kernel), List.mem_of_getElem? (i := 690) (by decide +kernel), List.mem_of_getElem? (i := 691) (by decide +kernel)⟩
theorem lw_p25 : lw_okq (⟨"FingerPostsModel", "walkTo", "(I)I"⟩, 13) := ⟨⟨by decide +kernel, by decide +kernel⟩, List.mem_of_getElem? (i := 528) (by decide +kernel), List.mem_of_getElem? (i := 698) (by decide +kernel), List.mem_of_getElem? (i := 699) (by decide +kernel)⟩
theorem lw_p26 : lw_okq (⟨"FingerPostsModel", "ranged", "(IIII)I"⟩, 13) := ⟨⟨by decide +kernel, by decide +kernel⟩, List.mem_of_getElem? (i := 528) (by decide +kernel), List.mem_of_getElem? (i := 714) (by decide +kernel), List.mem_of_getElem? (i := 715) (by decide +kernel)⟩
theorem lw_p27 : lw_okq (⟨"FingerPostsModel", "farthest", "(I)I"⟩, 13) := ⟨⟨by decide +kernel, by decide +kernel⟩, List.mem_of_getElem? (i := 528) (by decide +kernel), List.mem_of_getElem? (i := 726) (by decide +kernel), List.mem_of_getElem? (i := 727) (by decide +kernel)⟩
theorem lw_p28 : lw_okq (⟨"FingerPostsModel", "wouldBe", "(I)I"⟩, 13) := ⟨⟨by decide +kernel, by decide +kernel⟩, List.mem_of_getElem? (i := 528) (by decide +kernel), List.mem_of_getElem? (i := 738) (by decide +kernel), List.mem_of_getElem? (i := 739) (by decide +kernel)⟩
theorem lw_p29 : lw_okq (⟨"FingerPostsModel", "lookAtBoth", "()V"⟩, 13) := ⟨⟨by decide +kernel, by decide +kernel⟩, List.mem_of_getElem? (i := 528) (by decide +kernel), List.mem_of_getElem? (i := 742) (by decide +kernel), List.mem_of_getElem? (i := 743) (by decide +kernel)⟩
theorem lw_p30 : lw_okq (⟨"FingerPostsModel", "lookWithout", "(II)V"⟩, 13) := ⟨⟨by decide +kernel, by decide +kernel⟩, List.mem_of_getElem? (i := 528) (by decide +kernel), List.mem_of_getElem? (i := 751) (by decide +kernel), List.mem_of_getElem? (i := 752) (by decide +kernel)⟩
def lw_privs_2 : List (MethodName × Nat) := [(⟨"FingerPostsModel", "common", "()I"⟩, 13), (⟨"FingerPostsModel", "counted", "(II)I"⟩, 13), (⟨"FingerPostsModel", "look", "(I)V"⟩, 13), (⟨"FingerPostsModel", "makeSigns", "()V"⟩, 13), (⟨"FingerPostsModel", "part", "(III)I"⟩, 13), (⟨"FingerPostsModel", "longest", "()I"⟩, 13), (⟨"FingerPostsModel", "allPaths", "()I"⟩, 13), (⟨"FingerPostsModel", "bitsOfPosts", "()I"⟩, 13), (⟨"FingerPostsModel", "signTold", "(II)I"⟩, 13), (⟨"FingerPostsModel", "walkTo", "(I)I"⟩, 13), (⟨"FingerPostsModel", "ranged", "(IIII)I"⟩, 13), (⟨"FingerPostsModel", "farthest", "(I)I"⟩, 13), (⟨"FingerPostsModel", "wouldBe", "(I)I"⟩, 13), (⟨"FingerPostsModel", "lookAtBoth", "()V"⟩, 13), (⟨"FingerPostsModel", "lookWithout", "(II)V"⟩, 13)]
theorem lw_r2 : ∀ q ∈ lw_privs_2, lw_okq q := List.forall_mem_cons.mpr ⟨lw_p16, List.forall_mem_cons.mpr ⟨lw_p17, List.forall_mem_cons.mpr ⟨lw_p18, List.forall_mem_cons.mpr ⟨lw_p19, List.forall_mem_cons.mpr ⟨lw_p20, List.forall_mem_cons.mpr ⟨lw_p21, List.forall_mem_cons.mpr ⟨lw_p22, List.forall_mem_cons.mpr ⟨lw_p23, List.forall_mem_cons.mpr ⟨lw_p24, List.forall_mem_cons.mpr ⟨lw_p25, List.forall_mem_cons.mpr ⟨lw_p26, List.forall_mem_cons.mpr ⟨lw_p27, List.forall_mem_cons.mpr ⟨lw_p28, List.forall_mem_cons.mpr ⟨lw_p29, List.forall_mem_cons.mpr ⟨lw_p30, fun _ h => absurd h List.not_mem_nil⟩⟩⟩⟩⟩⟩⟩⟩⟩⟩⟩⟩⟩⟩⟩
def lw_privs : List (MethodName × Nat) := lw_privs_1 ++ (lw_privs_2)
def lw_tbl : List Cond := k2_sels lw_privs ++ tables_1
theorem lw_privs_ok : ∀ q ∈ lw_privs, lw_okq q := by
  show ∀ q ∈ lw_privs_1 ++ (lw_privs_2), lw_okq q
  exact List.forall_mem_append.mpr ⟨lw_r1, lw_r2⟩
/-- the streams that the claim lets the run draw from -/
abbrev lw_cs : List Choice := [Jvm.Choice.named "NaN.bits"]
theorem lw_bits : nanBits ∈ lw_cs := by first | decide | exact List.mem_cons_self | simp [lw_cs, nanBits]
-- ===== end of PART A; then your names; then what follows =====
/-! ===== BEGIN words of one list among another's, by their places ===== -/
theorem goodIn_r {big : List Cond} (ws : List Cond) (ps : List Nat) (hp : ws = ps.filterMap (fun i => big[i]?)) (h : ws.all goodWord = true) : GoodIn big ws := by
  intro w hw
  have h1 := List.all_eq_true.mp h w hw
  rw [hp] at hw
  obtain ⟨i, -, hi⟩ := List.mem_filterMap.mp hw
  have hm : w ∈ big := by first | exact List.mem_of_getElem? hi | exact List.getElem?_mem hi
  exact ⟨hm, good_of_word h1⟩
theorem goodIn_app {big a b : List Cond} (ha : GoodIn big a) (hb : GoodIn big b) : GoodIn big (a ++ b) := fun w h => (List.mem_append.mp h).elim (ha w) (hb w)
theorem goodIn_ca {big a b : List Cond} {c : Cond} (ha : GoodIn big (c :: a)) (hb : GoodIn big b) : GoodIn big (c :: (a ++ b)) := fun w h => (List.mem_cons.mp h).elim (fun e => ha w (List.mem_cons.mpr (Or.inl e))) (fun h => (List.mem_append.mp h).elim (fun h => ha w (List.mem_cons.mpr (Or.inr h))) (hb w))
theorem goodIn_sub {big ws : List Cond} (hm : ∀ w ∈ ws, w ∈ big) (h : ws.all goodWord = true) : GoodIn big ws := fun w hw => ⟨hm w hw, good_of_word (List.all_eq_true.mp h w hw)⟩
/-! ===== END ===== -/

/-! ===== BEGIN exceptions that leave a method, and their catching by the caller (launches without stack traces) ===== -/
section VXA
/-! The laws vx_back, vx_callV, vx_callS, vx_callSW, vx_throw0, vx_throwS follow proofs of the library, with one case more: JvmDerived/Free/Laws.lean (Back.of_free), Shelf42/LK1.lean (callV, callS), Shelf/KitTraced.lean (throwNew0V, throwNewS). -/
/-- where a method has thrown q: the class by its name, the cell, what was written, the world -/
def vx_T (XC : String → State → State → Prop) (st : State) (q : Addr) (t : State) (mc ms : Nat) (free : Addr → Prop) : Prop :=
  ∃ (E : String) (ce : Cell) (L : List Loc), XC E st t ∧ t.heap[q]? = some ce ∧ ce.vm = .none ∧ st.vm.findClass E = some ce.cls ∧ st.WarmedH t.vm ∧ st.sameButNew ({ t with vm := st.vm } : State) L mc ms ∧ ∀ z ∈ L, free z.base
def vx_Q (Qc : Array Value → State → Outcome → State → Prop) (XC : String → State → State → Prop) (mc ms : Nat) (free : Addr → Prop) : Array Value → State → Outcome → State → Prop := fun a st o t =>
  (Qc a st o t ∧ ∃ L, FrameEnd st o t L mc ms ∧ ∀ q ∈ L, free q.base) ∨ ∃ q, o = .threw q ∧ vx_T XC st q t mc ms free
/-- a callee that returns or throws -/
def vx_Met (l : Launch) (y : MethodName) (ws : List Cond) (rm : Room) (Pc : Array Value → State → Prop) (Qc : Array Value → State → Outcome → State → Prop) (XC : String → State → State → Prop) (mc ms : Nat) (free : Addr → Prop) : Prop :=
  MetFree l y (headSpec ws rm) Pc (fun _ _ _ _ _ => True) (vx_Q Qc XC mc ms free)
def vx_Post (XC : String → State → State → Prop) (mc ms : Nat) (free : Addr → Prop) : Pt → Array Value → Addr → Pt → Prop := fun A a q B =>
  ∃ (g : JFrame) (mk : MethodId) (t : State) (L : List Loc) (E : String) (ce : Cell), B.U.heap = t.heap ∧ B.U.vm = t.vm ∧ XC E (A.U.calling g mk a) t ∧ t.heap[q]? = some ce ∧ ce.vm = .none ∧ A.U.vm.findClass E = some ce.cls ∧ B.locs = A.locs ++ L ∧ (∀ z ∈ L, free z.base) ∧ B.cells = A.cells + mc ∧ B.slots = A.slots + ms
def vx_Back (l : Launch) (R : Room) (p : Program) (e : Env) (below : List Frame) (s : State) (sargs : Array Value) (y : MethodName) (len W9 : Nat)
    (Pre : Pt → Array Value → Prop) (Post : Pt → Array Value → Option Value → Pt → Prop) (PostX : Pt → Array Value → Addr → Pt → Prop) : Prop :=
  ∀ (m : MethodId) (meth : Method) (c : Code) (A : Pt) (g : JFrame) (ig : Instr) (mk : MethodId) (a : Array Value),
    Stand p l e R s m sargs below meth c A.U A.locs A.cells A.slots → g.method = m → g.locals.size = c.maxLocals → decode c.code g.pc = .ok (ig, len) →
    2 * g.monitorRoom + (g.stack.map fun v => v.category).sum ≤ W9 → A.U.methodNamed? y = some mk → Pre A a →
    (∃ (v : Option Value) (B : Pt), Stand p l e R s m sargs below meth c B.U B.locs B.cells B.slots ∧ Post A a v B ∧
      Steps p.tables e below (doInvoke e (A.U.setTop g) [] mk a).1 (B.U.setTop { g with pc := g.pc + len, stack := v.toList ++ g.stack })) ∨
    (∃ (q : Addr) (B : Pt), Stand p l e R s m sargs below meth c B.U B.locs B.cells B.slots ∧ PostX A a q B ∧
      Steps p.tables e below (doInvoke e (A.U.setTop g) [] mk a).1 ((B.U.setTop g).pushFrame (.throwing q)))
section Payer
variable {l : Launch} {R : Room} {p : Program} {e : Env} {below : List Frame} {s : State} {sargs : Array Value} {y : MethodName} {len W9 : Nat}
theorem vx_back {ws : List Cond} {rm : Room} {Pc : Array Value → State → Prop} {Qc : Array Value → State → Outcome → State → Prop} {XC : String → State → State → Prop} {mc ms : Nat} {free : Addr → Prop} {bytes : ByteArray} {maxL : Nat} {ret : Option FieldType}
    (hM : vx_Met l y ws rm Pc Qc XC mc ms free) (hblind : FrameBlind Pc) (hrc : rm.cells = mc) (hrs : rm.slots = ms)
    (hframes : rm.frames + 1 ≤ R.frames) (hlocals : W9 + (maxL + 11) + rm.locals ≤ R.locals)
    (hws : ∀ w ∈ ws, ∀ a' U, s.WarmedH U.vm → w.before a' U = true) (hcode : Cond.code y bytes maxL ret ∈ ws) (hinit : ∀ a' U, s.WarmedH U.vm → (Cond.initialized y.cls).before a' U = true) :
    vx_Back l R p e below s sargs y len W9 (PreOf R mc ms Pc) (PostOf Qc mc ms free) (vx_Post XC mc ms free) := by
  intro m meth c A g ig mk a X hg hsize hdg hW hn hp
  have h1 : (headSpec ws rm).pre.before a A.U = true := atoms_intro fun w hw => hws w hw _ _ X.warmed
  have h2 : (Cond.code y bytes maxL ret).before a A.U = true := hws _ hcode _ _ X.warmed
  have h3 : (Cond.initialized y.cls).before a A.U = true := hinit _ _ X.warmed
  have h4 : A.cells + (headSpec ws rm).room.cells ≤ R.cells := by rw [show (headSpec ws rm).room.cells = mc from hrc]; exact hp.1
  have h5 : A.slots + (headSpec ws rm).room.slots ≤ R.slots := by rw [show (headSpec ws rm).room.slots = ms from hrs]; exact hp.2.1
  have hPc : Pc a (A.U.calling g mk a) := hblind _ _ _ _ hp.2.2
  obtain ⟨U, Ls, c0, s0⟩ := A
  dsimp only [Pt.U, Pt.locs, Pt.cells, Pt.slots] at h1 h2 h3 h4 h5 X hn hPc ⊢
  obtain ⟨methY, cY, hmY, hcY, -, hlY, -, -, -, -⟩ := Cond.code_spec hn h2
  obtain ⟨kY, hkY, -⟩ := className_of_methodNamed hn
  have hinitY : kY.init = .initialized := Cond.initialized_spec (findClass_of_methodNamed hn) hkY h3
  have h : At U g.method c below := by rw [hg]; exact X.here
  have hlocals9 : W9 + (maxL + 11) + (headSpec ws rm).room.locals ≤ R.locals := hlocals
  have happ : (headSpec ws rm).appliesLoose y e.platform (U.calling g mk a) = true :=
    Spec.appliesLoose_calling (g := g) h hdg hn hkY hinitY
      (X.room_calling (g := g) (R' := (headSpec ws rm).room) hsize hmY hcY hframes (by rw [hlY]; omega) h4 h5) h1
  obtain ⟨mid, hmid⟩ := h.above
  have hfr : (U.setTop g).frames = (.java g :: mid) ++ below := by rw [State.frames_setTop' g h.top, hmid]; rfl
  obtain ⟨o, s₂, hsteps, -, hend, hq⟩ := Steps.callFree hM p X.admits X.cas X.clock (acts := []) hfr happ hPc trivial
  have hq' : vx_Q Qc XC mc ms free a (U.calling g mk a) o s₂ := hq
  rw [State.frames_setTop' g h.top] at hend
  obtain ⟨g₀, hg0⟩ := Option.isSome_iff_exists.mp h.top
  obtain ⟨r, hr⟩ := State.topJava?_eq_some.mp hg0
  have hr' : (({ U with heap := s₂.heap, slotsUsed := s₂.slotsUsed } : State).setVm s₂.vm).frames = .java g₀ :: r := hr
  rcases hq' with ⟨hqc, L, hfe, hL⟩ | ⟨q, rfl, E, ce, L, hx, hce, hcv, hcl, hW₂, hsm, hL⟩
  · obtain ⟨⟨v, rfl⟩, hW₂, e2, q2, q3, q4, q5, q6⟩ := id hfe
    have e3 : s₂ = ({ (U.calling g mk a).setFrames s₂.frames with heap := s₂.heap, slotsUsed := s₂.slotsUsed } : State).setVm s₂.vm := by
      have : s₂ = ({ s₂ with vm := (U.calling g mk a).vm } : State).setVm s₂.vm := rfl
      rw [e2] at this
      exact this
    obtain ⟨c₂, i₂, len₂, hc₂, hd₂, hf₂⟩ := hend
    have hW' : U.WarmedH s₂.vm := hW₂
    have hcc : c₂ = c := by
      have h1 : s₂.code? g.method = U.code? g.method := by
        rw [State.code?_eq, State.code?_eq, hW'.alike.method?]
      exact Option.some.inj (hc₂.symm.trans (h1.trans h.code))
    subst hcc
    have hlen : len₂ = len := by rw [hdg] at hd₂; cases hd₂; rfl
    subst hlen
    have hs₂ : s₂ = (({ U with heap := s₂.heap, slotsUsed := s₂.slotsUsed } : State).setVm s₂.vm).setTop { g with pc := g.pc + len₂, stack := v.toList ++ g.stack } := by
      refine e3.trans ?_
      rw [hf₂, State.calling_eq h.top, State.setFrames_setFrames, State.setTop_of_frames _ hr', hr]
      rfl
    have hsame : U.sameButNew ({ U with heap := s₂.heap, slotsUsed := s₂.slotsUsed } : State) L mc ms := by
      refine ⟨?_, q2, q3, q4, q5, q6⟩
      obtain ⟨t, ht, -⟩ := State.frames_cons hr
      show ({ U with heap := s₂.heap, slotsUsed := s₂.slotsUsed } : State) = { U.setFrames U.frames with heap := s₂.heap, slotsUsed := s₂.slotsUsed }
      rw [State.setFrames_self ht]
    subst hg
    refine Or.inl ⟨v, ⟨(({ U with heap := s₂.heap, slotsUsed := s₂.slotsUsed } : State).setVm s₂.vm), Ls ++ L, c0 + mc, s0 + ms⟩,
      ⟨X.admits, X.cas, X.clock, X.frames, X.room, X.hears, X.method, X.code, (X.here.setHeapUsed s₂.heap s₂.slotsUsed).setVm hW'.alike, X.tail, State.WarmedH.trans X.warmed hW', X.limits, X.bytes, X.same.trans (hsame.setVm s.vm)⟩,
      ⟨g, mk, s₂, L, rfl, rfl, hqc, rfl, hL, rfl, rfl⟩, ?_⟩
    show Steps p.tables e below _ ((({ U with heap := s₂.heap, slotsUsed := s₂.slotsUsed } : State).setVm s₂.vm).setTop { g with pc := g.pc + len₂, stack := v.toList ++ g.stack })
    rw [← hs₂]
    exact hsteps
  · obtain ⟨e2, q2, q3, q4, q5, q6⟩ := id hsm
    have e3 : s₂ = ({ (U.calling g mk a).setFrames s₂.frames with heap := s₂.heap, slotsUsed := s₂.slotsUsed } : State).setVm s₂.vm := by
      have : s₂ = ({ s₂ with vm := (U.calling g mk a).vm } : State).setVm s₂.vm := rfl
      rw [e2] at this
      exact this
    have hf₂ : s₂.frames = .throwing q :: .java g :: U.frames.tail := hend
    have hW' : U.WarmedH s₂.vm := hW₂
    have hs₂ : s₂ = ((({ U with heap := s₂.heap, slotsUsed := s₂.slotsUsed } : State).setVm s₂.vm).setTop g).pushFrame (.throwing q) := by
      refine e3.trans ?_
      rw [hf₂, State.calling_eq h.top, State.setFrames_setFrames, State.pushFrame, State.frames_setTop _ hr', State.setTop_of_frames _ hr', State.setFrames_setFrames, hr]
      rfl
    have hsame : U.sameButNew ({ U with heap := s₂.heap, slotsUsed := s₂.slotsUsed } : State) L mc ms := by
      refine ⟨?_, q2, q3, q4, q5, q6⟩
      obtain ⟨t, ht, -⟩ := State.frames_cons hr
      show ({ U with heap := s₂.heap, slotsUsed := s₂.slotsUsed } : State) = { U.setFrames U.frames with heap := s₂.heap, slotsUsed := s₂.slotsUsed }
      rw [State.setFrames_self ht]
    subst hg
    refine Or.inr ⟨q, ⟨(({ U with heap := s₂.heap, slotsUsed := s₂.slotsUsed } : State).setVm s₂.vm), Ls ++ L, c0 + mc, s0 + ms⟩,
      ⟨X.admits, X.cas, X.clock, X.frames, X.room, X.hears, X.method, X.code, (X.here.setHeapUsed s₂.heap s₂.slotsUsed).setVm hW'.alike, X.tail, State.WarmedH.trans X.warmed hW', X.limits, X.bytes, X.same.trans (hsame.setVm s.vm)⟩,
      ⟨g, mk, s₂, L, E, ce, rfl, rfl, hx, hce, hcv, hcl, rfl, hL, rfl, rfl⟩, ?_⟩
    show Steps p.tables e below _ (((({ U with heap := s₂.heap, slotsUsed := s₂.slotsUsed } : State).setVm s₂.vm).setTop g).pushFrame (.throwing q))
    rw [← hs₂]
    exact hsteps
end Payer
section Calls
variable {p : Program} {l : Launch} {e : Env} {R : Room} {s : State} {m : MethodId} {args : Array Value} {below : List Frame} {meth : Method} {c : Code} {T : State} {locs : List Loc} {cells slots : Nat}
theorem vx_callV (X : Stand p l e R s m args below meth c T locs cells slots) (hexec : p.tables.exec = Jvm.exec) {own C : String} {index : Nat} {y : MethodName} {bytes : ByteArray} {maxL : Nat} {ret : Option FieldType}
    (hown : s.vm.findClass own = some m.cls) (hlink : (Cond.methodLink own index y).before args s = true) (hinst : (Cond.instanceMethod y).before args s = true) (hsel : (Cond.selects C y y).before args s = true)
    (hcode : (Cond.code y bytes maxL ret).before args s = true) (hy : y.cls ≠ "java/lang/invoke/MethodHandle" ∧ y.cls ≠ "java/lang/invoke/VarHandle")
    {W9 : Nat} {Pre : Pt → Array Value → Prop} {Post : Pt → Array Value → Option Value → Pt → Prop} {PostX : Pt → Array Value → Addr → Pt → Prop} (hK : vx_Back l R p e below s args y 3 W9 Pre Post PostX)
    {b : Addr} {cellB : Cell} (hcell : T.heap[b]? = some cellB) (hobj : cellB.vm.isStatics = false) (hcls : s.vm.findClass C = some cellB.cls)
    {g : JFrame} (hg : g.method = m) (hsize : g.locals.size = c.maxLocals) {argsL rest : List Value} (hlen : ∀ sig, parseMethodDescriptor y.desc = some sig → argsL.length = sig.parameters.length)
    (hstack : g.stack = argsL.reverse ++ .ref b :: rest) (hW : 2 * g.monitorRoom + (rest.map fun v => v.category).sum ≤ W9) (hdg : decode c.code g.pc = .ok (.invokevirtual index, 3))
    (hpre : ∀ vm₁, s.WarmedH vm₁ → Pre ⟨T.setVm vm₁, locs, cells, slots⟩ (Value.ref b :: argsL).toArray) :
    (∃ (v : Option Value) (vm₁ : Vm) (B : Pt), s.WarmedH vm₁ ∧ Stand p l e R s m args below meth c B.U B.locs B.cells B.slots ∧ Post ⟨T.setVm vm₁, locs, cells, slots⟩ (Value.ref b :: argsL).toArray v B ∧
      ∀ target, Steps p.tables e below (B.U.setTop { g with pc := g.pc + 3, stack := v.toList ++ rest }) target → Steps p.tables e below (T.setTop g) target) ∨
    (∃ (q : Addr) (vm₁ : Vm) (B : Pt), s.WarmedH vm₁ ∧ Stand p l e R s m args below meth c B.U B.locs B.cells B.slots ∧ PostX ⟨T.setVm vm₁, locs, cells, slots⟩ (Value.ref b :: argsL).toArray q B ∧
      Steps p.tables e below (T.setTop g) ((B.U.setTop { g with stack := rest }).pushFrame (.throwing q))) := by
  obtain ⟨mk, methM, hnamed, hmethM, hstM, habM⟩ := Cond.instanceMethod_spec hinst
  obtain ⟨methM', cM, hmethM', -, -, -, -, -, -, hsigM⟩ := Cond.code_spec hnamed hcode
  cases hmethM.symm.trans hmethM'
  obtain ⟨c2, r2, m2, q1, q2, q3, q4, kP, hkP, hkPi⟩ := Cond.selects_spec hsel
  cases hcls.symm.trans q1
  cases (State.methodFound?_of_named hnamed hy).symm.trans q2
  cases hnamed.symm.trans q3
  have hselP : selectMethod e.platform s.vm cellB.cls mk = .method mk := by rw [Launch.admits_selectMethod X.admits]; exact q4
  obtain ⟨vm₁, X₁, hstep₁⟩ := X.invokevirtual hexec hown hlink hnamed hmethM hstM hkP hkPi hy (a := b) (cell := cellB) hcell
    (fun z h => by rw [h] at hobj; cases hobj) hselP hmethM habM hkP hkPi (g := g) hg (argsL := argsL) (rest := rest) (hlen _ hsigM) hstack hdg
  rcases hK m meth c ⟨T.setVm vm₁, locs, cells, slots⟩ { g with stack := rest } (.invokevirtual index) mk (Value.ref b :: argsL).toArray X₁ hg hsize hdg hW (X₁.named hnamed) (hpre vm₁ X₁.warmed) with ⟨v, B, X', hpost, hsteps⟩ | ⟨q, B, X', hpost, hsteps⟩
  · exact Or.inl ⟨v, vm₁, B, X₁.warmed, X', hpost, fun target h => hstep₁ _ fun acts => by rw [doInvoke_state]; exact hsteps.trans h⟩
  · exact Or.inr ⟨q, vm₁, B, X₁.warmed, X', hpost, hstep₁ _ fun acts => by rw [doInvoke_state]; exact hsteps⟩
theorem vx_callS (X : Stand p l e R s m args below meth c T locs cells slots) (hexec : p.tables.exec = Jvm.exec) {own : String} {index : Nat} {y : MethodName} {bytes : ByteArray} {maxL : Nat} {ret : Option FieldType}
    (hown : s.vm.findClass own = some m.cls) (hlink : (Cond.methodLink own index y).before args s = true) (hstat : (Cond.static y).before args s = true) (hinit : (Cond.initialized y.cls).before args s = true)
    (hcode : (Cond.code y bytes maxL ret).before args s = true) (hy : y.cls ≠ "java/lang/invoke/MethodHandle" ∧ y.cls ≠ "java/lang/invoke/VarHandle")
    {W9 : Nat} {Pre : Pt → Array Value → Prop} {Post : Pt → Array Value → Option Value → Pt → Prop} {PostX : Pt → Array Value → Addr → Pt → Prop} (hK : vx_Back l R p e below s args y 3 W9 Pre Post PostX)
    {g : JFrame} (hg : g.method = m) (hsize : g.locals.size = c.maxLocals) {argsL rest : List Value} (hlen : ∀ sig, parseMethodDescriptor y.desc = some sig → argsL.length = sig.parameters.length)
    (hstack : g.stack = argsL.reverse ++ rest) (hW : 2 * g.monitorRoom + (rest.map fun v => v.category).sum ≤ W9) (hdg : decode c.code g.pc = .ok (.invokestatic index, 3))
    (hpre : ∀ vm₁, s.WarmedH vm₁ → Pre ⟨T.setVm vm₁, locs, cells, slots⟩ argsL.toArray) :
    (∃ (v : Option Value) (vm₁ : Vm) (B : Pt), s.WarmedH vm₁ ∧ Stand p l e R s m args below meth c B.U B.locs B.cells B.slots ∧ Post ⟨T.setVm vm₁, locs, cells, slots⟩ argsL.toArray v B ∧
      ∀ target, Steps p.tables e below (B.U.setTop { g with pc := g.pc + 3, stack := v.toList ++ rest }) target → Steps p.tables e below (T.setTop g) target) ∨
    (∃ (q : Addr) (vm₁ : Vm) (B : Pt), s.WarmedH vm₁ ∧ Stand p l e R s m args below meth c B.U B.locs B.cells B.slots ∧ PostX ⟨T.setVm vm₁, locs, cells, slots⟩ argsL.toArray q B ∧
      Steps p.tables e below (T.setTop g) ((B.U.setTop { g with stack := rest }).pushFrame (.throwing q))) := by
  obtain ⟨mk, hnamed⟩ := Cond.code_named hcode
  obtain ⟨methM, cM, hmethM, -, -, -, -, -, -, hsigM⟩ := Cond.code_spec hnamed hcode
  have hstatic : methM.isStatic = true := Cond.static_spec hnamed hmethM hstat
  obtain ⟨kP, hkP, -⟩ := className_of_methodNamed hnamed
  have hinitP : kP.init = .initialized := Cond.initialized_spec (findClass_of_methodNamed hnamed) hkP hinit
  obtain ⟨vm₁, X₁, hstep₁⟩ := X.invokestatic hexec hown hlink hnamed hmethM hstatic hkP hinitP hy (g := g) hg (argsL := argsL) (rest := rest) (hlen _ hsigM) hstack hdg
  rcases hK m meth c ⟨T.setVm vm₁, locs, cells, slots⟩ { g with stack := rest } (.invokestatic index) mk argsL.toArray X₁ hg hsize hdg hW (X₁.named hnamed) (hpre vm₁ X₁.warmed) with ⟨v, B, X', hpost, hsteps⟩ | ⟨q, B, X', hpost, hsteps⟩
  · exact Or.inl ⟨v, vm₁, B, X₁.warmed, X', hpost, fun target h => hstep₁ _ fun acts => by rw [doInvoke_state]; exact hsteps.trans h⟩
  · exact Or.inr ⟨q, vm₁, B, X₁.warmed, X', hpost, hstep₁ _ fun acts => by rw [doInvoke_state]; exact hsteps⟩
end Calls
theorem vx_cls {s : State} {T : State} {vm₁ : Vm} {E : String} {k : ClassId} (hW : s.WarmedH vm₁) (h : (T.setVm vm₁).vm.findClass E = some k) : s.vm.findClass E = some k := by
  have h1 : vm₁.findClass E = some k := h
  rw [hW.alike.findClass] at h1
  exact h1
/-- the method's frame g, with q thrown over it -/
def vx_W (p : Program) (l : Launch) (e : Env) (R : Room) (s : State) (m : MethodId) (args : Array Value) (below : List Frame) (meth : Method) (c : Code) (H : Heap) (locs : List Loc) (cells slots : Nat) (Q : State → Prop) (g : JFrame) (q : Addr) : Prop :=
  ∀ T : State, T.heap = H → Stand p l e R s m args below meth c T locs cells slots → ∃ t, Steps p.tables e below ((T.setTop g).pushFrame (.throwing q)) t ∧ Q t
def vx_Run (p : Program) (l : Launch) (e : Env) (R : Room) (s : State) (m : MethodId) (args : Array Value) (below : List Frame) (meth : Method) (c : Code) (H : Heap) (locs : List Loc) (cells slots mc ms : Nat) (g : JFrame) (rest : List Value) (Qa : State → Outcome → State → Prop) (XC : String → State → State → Prop) (free : Addr → Prop) : Prop :=
  ∀ T : State, T.heap = H → Stand p l e R s m args below meth c T locs cells slots →
    (∃ (v : Option Value) (st₀ t T' : State) (L : List Loc), st₀.heap = H ∧ Stand p l e R s m args below meth c T' (locs ++ L) (cells + mc) (slots + ms) ∧ (∀ q ∈ L, free q.base) ∧ T'.heap = t.heap ∧ T'.vm = t.vm ∧ Qa st₀ (.returned v) t ∧
      Goes p e below T g T' { g with pc := g.pc + 3, stack := v.toList ++ rest }) ∨
    (∃ (q : Addr) (st₀ t T' : State) (L : List Loc) (E : String) (ce : Cell), st₀.heap = H ∧ Stand p l e R s m args below meth c T' (locs ++ L) (cells + mc) (slots + ms) ∧ (∀ z ∈ L, free z.base) ∧ T'.heap = t.heap ∧ T'.vm = t.vm ∧ XC E st₀ t ∧ t.heap[q]? = some ce ∧ ce.vm = .none ∧ s.vm.findClass E = some ce.cls ∧
      Steps p.tables e below (T.setTop g) ((T'.setTop { g with stack := rest }).pushFrame (.throwing q)))
def vx_X {S : Type} (px : S → Prop) (B : String → S → State → Prop) (A : Nat → Prop) : String → State → State → Prop := fun E st t => ∃ u : S, px u ∧ B E u t ∧ va_F A st t
section Runs
variable {p : Program} {l : Launch} {e : Env} {R : Room} {s : State} {m : MethodId} {args : Array Value} {below : List Frame} {meth : Method} {c : Code} {H : Heap} {locs : List Loc} {cells slots : Nat}
variable {y : MethodName} {bytes cc : ByteArray} {maxL nL mc ms n index : Nat} {ret : Option FieldType} {ws : List Cond} {rm : Room} {Pc : Array Value → State → Prop} {Qc : Array Value → State → Outcome → State → Prop} {XC : String → State → State → Prop} {free : Addr → Prop} {Ts : List Cond} {own C : String} {b : Addr} {As rest : List Value} {g : JFrame}
theorem vx_callBack (cb : CallB R s args own index y bytes maxL ret ws rm mc ms n) (hM : vx_Met l y ws rm Pc Qc XC mc ms free) (hbl : FrameBlind Pc) : vx_Back l R p e below s args y 3 8 (PreOf R mc ms Pc) (PostOf Qc mc ms free) (vx_Post XC mc ms free) := by
  obtain ⟨hrc, hrs, hfr, hlo, hws, hcw, -, hini, -⟩ := cb
  exact vx_back (bytes := bytes) (maxL := maxL) (ret := ret) hM hbl hrc hrs hfr hlo hws hcw (fun a' U hW => word_at hW (Or.inl (by first | rfl | simp [Cond.onTables, Cond.keeps, Cond.steady])) hini)
theorem vx_runV (S : CallFix p m c cc nL s args Ts own) (hM : vx_Met l y ws rm Pc Qc XC mc ms free) (cw : CallW R s args own C index y bytes maxL ret ws rm mc ms n) (hp : PreV s H C b Pc As)
    (hg : g.method = m) (hn : As.length = n) (hsize : g.locals.size = nL) (hstack : g.stack = As.reverse ++ .ref b :: rest) (hW : 2 * g.monitorRoom + (rest.map fun v => v.category).sum ≤ 8) (hdg : decode cc g.pc = .ok (.invokevirtual index, 3)) (hf : cells + mc ≤ R.cells ∧ slots + ms ≤ R.slots) :
    vx_Run p l e R s m args below meth c H locs cells slots mc ms g rest (Qc (Value.ref b :: As).toArray) XC free := by
  have hK : vx_Back l R p e below s args y 3 8 (PreOf R mc ms Pc) (PostOf Qc mc ms free) (vx_Post XC mc ms free) := vx_callBack cw.1 hM hp.1
  obtain ⟨⟨-, -, -, -, -, -, hcode, -, hy, hlen, hl⟩, hin, hse⟩ := cw
  obtain ⟨hx, hb, hml, ho, -⟩ := S
  obtain ⟨-, ⟨cellB, hcB, hoB, hclB⟩, hPc⟩ := hp
  intro T hT X
  rcases vx_callV X hx (C := C) (bytes := bytes) (maxL := maxL) (ret := ret) ho hl hin hse hcode hy hK (by rw [hT]; exact hcB) hoB hclB hg (hsize.trans hml.symm) (argsL := As) (rest := rest) (fun sig h => hn.trans (hlen sig h)) hstack hW (by rw [hb]; exact hdg)
    (fun vm₁ hW₁ => ⟨hf.1, hf.2, hPc (T.setVm vm₁) hT hW₁⟩) with ⟨v, vm₁, ⟨U', l2, c2, s2⟩, hW₁, X', ⟨g', mk, t, L, e1, e2, hq, h1, hL, h2, h3⟩, st⟩ | ⟨q, vm₁, ⟨U', l2, c2, s2⟩, hW₁, X', ⟨g', mk, t, L, E, ce, e1, e2, hq, hce, hcv, hcl, h1, hL, h2, h3⟩, st⟩
  · dsimp only [Pt.U, Pt.locs, Pt.cells, Pt.slots] at X' e1 e2 h1 h2 h3 st
    subst h1; subst h2; subst h3
    exact Or.inl ⟨v, (T.setVm vm₁).calling g' mk (Value.ref b :: As).toArray, t, U', L, hT, X', hL, e1, e2, hq, st⟩
  · dsimp only [Pt.U, Pt.locs, Pt.cells, Pt.slots] at X' e1 e2 h1 h2 h3 st hcl
    subst h1; subst h2; subst h3
    exact Or.inr ⟨q, (T.setVm vm₁).calling g' mk (Value.ref b :: As).toArray, t, U', L, E, ce, hT, X', hL, e1, e2, hq, hce, hcv, vx_cls hW₁ hcl, st⟩
theorem vx_runS (S : CallFix p m c cc nL s args Ts own) (hM : vx_Met l y ws rm Pc Qc XC mc ms free) (cw : CallB R s args own index y bytes maxL ret ws rm mc ms n ∧ (Cond.static y).before args s = true) (hp : PreS s H Pc As)
    (hg : g.method = m) (hn : As.length = n) (hsize : g.locals.size = nL) (hstack : g.stack = As.reverse ++ rest) (hW : 2 * g.monitorRoom + (rest.map fun v => v.category).sum ≤ 8) (hdg : decode cc g.pc = .ok (.invokestatic index, 3)) (hf : cells + mc ≤ R.cells ∧ slots + ms ≤ R.slots) :
    vx_Run p l e R s m args below meth c H locs cells slots mc ms g rest (Qc As.toArray) XC free := by
  have hK : vx_Back l R p e below s args y 3 8 (PreOf R mc ms Pc) (PostOf Qc mc ms free) (vx_Post XC mc ms free) := vx_callBack cw.1 hM hp.1
  obtain ⟨⟨-, -, -, -, -, -, hcode, hini, hy, hlen, hl⟩, hstt⟩ := cw
  obtain ⟨hx, hb, hml, ho, -⟩ := S
  intro T hT X
  rcases vx_callS X hx (bytes := bytes) (maxL := maxL) (ret := ret) ho hl hstt hini hcode hy hK hg (hsize.trans hml.symm) (argsL := As) (rest := rest) (fun sig h => hn.trans (hlen sig h)) hstack hW (by rw [hb]; exact hdg)
    (fun vm₁ hW₁ => ⟨hf.1, hf.2, hp.2 (T.setVm vm₁) hT hW₁⟩) with ⟨v, vm₁, ⟨U', l2, c2, s2⟩, hW₁, X', ⟨g', mk, t, L, e1, e2, hq, h1, hL, h2, h3⟩, st⟩ | ⟨q, vm₁, ⟨U', l2, c2, s2⟩, hW₁, X', ⟨g', mk, t, L, E, ce, e1, e2, hq, hce, hcv, hcl, h1, hL, h2, h3⟩, st⟩
  · dsimp only [Pt.U, Pt.locs, Pt.cells, Pt.slots] at X' e1 e2 h1 h2 h3 st
    subst h1; subst h2; subst h3
    exact Or.inl ⟨v, (T.setVm vm₁).calling g' mk As.toArray, t, U', L, hT, X', hL, e1, e2, hq, st⟩
  · dsimp only [Pt.U, Pt.locs, Pt.cells, Pt.slots] at X' e1 e2 h1 h2 h3 st hcl
    subst h1; subst h2; subst h3
    exact Or.inr ⟨q, (T.setVm vm₁).calling g' mk As.toArray, t, U', L, E, ce, hT, X', hL, e1, e2, hq, hce, hcv, vx_cls hW₁ hcl, st⟩
end Runs
section Rows
variable {p : Program} {l : Launch} {e : Env} {R : Room} {s : State} {m : MethodId} {args : Array Value} {below : List Frame} {meth : Method} {c : Code} {H : Heap} {locs : List Loc} {cells slots : Nat} {Q : State → Prop}
variable {mc ms : Nat} {free : Addr → Prop} {A0 A1 : Nat → Prop} {H0 : Heap} {a : Array Value} {pc : Nat} {ls : Array Slot} {st0 rest : List Value}
theorem vx_keep {st₀ t T' : State} {L : List Loc} (h0 : st₀.heap = H) (e1 : T'.heap = t.heap) (hS : va_S A0 H0 H locs) (hA : ∀ q, q < H.size → A1 q → A0 q) (hf : ∀ q, free q → A0 q) (hL : ∀ q ∈ L, free q.base) (hF : va_F A1 st₀ t) :
    H.size ≤ T'.heap.size ∧ (∀ q : Nat, q < H.size → ¬ A1 q → T'.heap[q]? = H[q]?) ∧ va_S A0 H0 T'.heap (locs ++ L) := by
  obtain ⟨hz, hk⟩ := hF
  rw [h0] at hz hk
  exact ⟨by rw [e1]; exact hz, fun q h1 h2 => by rw [e1]; exact hk q h1 h2,
    ⟨Nat.le_trans hS.1 (by rw [e1]; exact hz), fun q h1 h2 => by rw [e1, hk q (Nat.lt_of_lt_of_le h1 hS.1) (fun z => h2 (hA q (Nat.lt_of_lt_of_le h1 hS.1) z))]; exact hS.2.1 q h1 h2, fun q hq => by
      rcases List.mem_append.mp hq with h | h
      · exact hS.2.2 q h
      · exact hf _ (hL q h)⟩⟩
theorem vx_calli {S SX : Type} {post : Int32 → S → Prop} {px : SX → Prop} {B : S → State → Prop} {BX : String → SX → State → Prop} {AX : Nat → Prop} (hr : vx_Run p l e R s m args below meth c H locs cells slots mc ms (F0 m pc ls st0) rest (va_Qi post B A1 a) (vx_X px BX AX) free) (hS : va_S A0 H0 H locs) (hA : ∀ q, q < H.size → A1 q → A0 q) (hf : ∀ q, free q → A0 q) (hAX : ∀ q, q < H.size → AX q → A0 q)
    (kx : ∀ (E : String) (ce : Cell) (q9 : Addr) (u : SX) (t : State) (H1 : Heap) (locs1 : List Loc), t.heap = H1 → s.vm.Alike t.vm → px u → BX E u t → H.size ≤ H1.size → (∀ q : Nat, q < H.size → ¬ AX q → H1[q]? = H[q]?) → va_S A0 H0 H1 locs1 → H1[q9]? = some ce → ce.vm = .none → s.vm.findClass E = some ce.cls → vx_W p l e R s m args below meth c H1 locs1 (cells + mc) (slots + ms) Q (F0 m pc ls rest) q9)
    (kk : ∀ (r : Int32) (u : S) (t : State) (H1 : Heap) (locs1 : List Loc), t.heap = H1 → s.vm.Alike t.vm → post r u → B u t → H.size ≤ H1.size → (∀ q : Nat, q < H.size → ¬ A1 q → H1[q]? = H[q]?) → va_S A0 H0 H1 locs1 → W p l e R s m args below meth c H1 locs1 (cells + mc) (slots + ms) Q (F0 m (pc + 3) ls (.int r :: rest))) : W p l e R s m args below meth c H locs cells slots Q (F0 m pc ls st0) := by
  intro T hT X
  rcases hr T hT X with ⟨v, st₀, t, T', L, h0, X', hL, e1, e2, ⟨⟨r, u, hv, hp, hb⟩, hF⟩, st⟩ | ⟨q, st₀, t, T', L, E, ce, h0, X', hL, e1, e2, ⟨u, hp, hb, hF⟩, hce, hcv, hcl, st⟩
  · cases hv
    obtain ⟨k1, k2, k3⟩ := vx_keep h0 e1 hS hA hf hL hF
    obtain ⟨t2, a1, b1⟩ := kk r u t T'.heap (locs ++ L) e1.symm (by rw [← e2]; exact X'.warmed.alike) hp hb k1 k2 k3 T' rfl X'
    exact ⟨t2, st t2 a1, b1⟩
  · obtain ⟨k1, k2, k3⟩ := vx_keep h0 e1 hS hAX hf hL hF
    obtain ⟨t2, a1, b1⟩ := kx E ce q u t T'.heap (locs ++ L) e1.symm (by rw [← e2]; exact X'.warmed.alike) hp hb k1 k2 k3 (by rw [e1]; exact hce) hcv hcl T' rfl X'
    exact ⟨t2, st.trans a1, b1⟩
theorem vx_calll {S SX : Type} {post : Int64 → S → Prop} {px : SX → Prop} {B : S → State → Prop} {BX : String → SX → State → Prop} {AX : Nat → Prop} (hr : vx_Run p l e R s m args below meth c H locs cells slots mc ms (F0 m pc ls st0) rest (va_Ql post B A1 a) (vx_X px BX AX) free) (hS : va_S A0 H0 H locs) (hA : ∀ q, q < H.size → A1 q → A0 q) (hf : ∀ q, free q → A0 q) (hAX : ∀ q, q < H.size → AX q → A0 q)
    (kx : ∀ (E : String) (ce : Cell) (q9 : Addr) (u : SX) (t : State) (H1 : Heap) (locs1 : List Loc), t.heap = H1 → s.vm.Alike t.vm → px u → BX E u t → H.size ≤ H1.size → (∀ q : Nat, q < H.size → ¬ AX q → H1[q]? = H[q]?) → va_S A0 H0 H1 locs1 → H1[q9]? = some ce → ce.vm = .none → s.vm.findClass E = some ce.cls → vx_W p l e R s m args below meth c H1 locs1 (cells + mc) (slots + ms) Q (F0 m pc ls rest) q9)
    (kk : ∀ (r : Int64) (u : S) (t : State) (H1 : Heap) (locs1 : List Loc), t.heap = H1 → s.vm.Alike t.vm → post r u → B u t → H.size ≤ H1.size → (∀ q : Nat, q < H.size → ¬ A1 q → H1[q]? = H[q]?) → va_S A0 H0 H1 locs1 → W p l e R s m args below meth c H1 locs1 (cells + mc) (slots + ms) Q (F0 m (pc + 3) ls (.long r :: rest))) : W p l e R s m args below meth c H locs cells slots Q (F0 m pc ls st0) := by
  intro T hT X
  rcases hr T hT X with ⟨v, st₀, t, T', L, h0, X', hL, e1, e2, ⟨⟨r, u, hv, hp, hb⟩, hF⟩, st⟩ | ⟨q, st₀, t, T', L, E, ce, h0, X', hL, e1, e2, ⟨u, hp, hb, hF⟩, hce, hcv, hcl, st⟩
  · cases hv
    obtain ⟨k1, k2, k3⟩ := vx_keep h0 e1 hS hA hf hL hF
    obtain ⟨t2, a1, b1⟩ := kk r u t T'.heap (locs ++ L) e1.symm (by rw [← e2]; exact X'.warmed.alike) hp hb k1 k2 k3 T' rfl X'
    exact ⟨t2, st t2 a1, b1⟩
  · obtain ⟨k1, k2, k3⟩ := vx_keep h0 e1 hS hAX hf hL hF
    obtain ⟨t2, a1, b1⟩ := kx E ce q u t T'.heap (locs ++ L) e1.symm (by rw [← e2]; exact X'.warmed.alike) hp hb k1 k2 k3 (by rw [e1]; exact hce) hcv hcl T' rfl X'
    exact ⟨t2, st.trans a1, b1⟩
theorem vx_callf {S SX : Type} {post : UInt32 → S → Prop} {px : SX → Prop} {B : S → State → Prop} {BX : String → SX → State → Prop} {AX : Nat → Prop} (hr : vx_Run p l e R s m args below meth c H locs cells slots mc ms (F0 m pc ls st0) rest (va_Qf post B A1 a) (vx_X px BX AX) free) (hS : va_S A0 H0 H locs) (hA : ∀ q, q < H.size → A1 q → A0 q) (hf : ∀ q, free q → A0 q) (hAX : ∀ q, q < H.size → AX q → A0 q)
    (kx : ∀ (E : String) (ce : Cell) (q9 : Addr) (u : SX) (t : State) (H1 : Heap) (locs1 : List Loc), t.heap = H1 → s.vm.Alike t.vm → px u → BX E u t → H.size ≤ H1.size → (∀ q : Nat, q < H.size → ¬ AX q → H1[q]? = H[q]?) → va_S A0 H0 H1 locs1 → H1[q9]? = some ce → ce.vm = .none → s.vm.findClass E = some ce.cls → vx_W p l e R s m args below meth c H1 locs1 (cells + mc) (slots + ms) Q (F0 m pc ls rest) q9)
    (kk : ∀ (r : UInt32) (u : S) (t : State) (H1 : Heap) (locs1 : List Loc), t.heap = H1 → s.vm.Alike t.vm → post r u → B u t → H.size ≤ H1.size → (∀ q : Nat, q < H.size → ¬ A1 q → H1[q]? = H[q]?) → va_S A0 H0 H1 locs1 → W p l e R s m args below meth c H1 locs1 (cells + mc) (slots + ms) Q (F0 m (pc + 3) ls (.float r :: rest))) : W p l e R s m args below meth c H locs cells slots Q (F0 m pc ls st0) := by
  intro T hT X
  rcases hr T hT X with ⟨v, st₀, t, T', L, h0, X', hL, e1, e2, ⟨⟨r, u, hv, hp, hb⟩, hF⟩, st⟩ | ⟨q, st₀, t, T', L, E, ce, h0, X', hL, e1, e2, ⟨u, hp, hb, hF⟩, hce, hcv, hcl, st⟩
  · cases hv
    obtain ⟨k1, k2, k3⟩ := vx_keep h0 e1 hS hA hf hL hF
    obtain ⟨t2, a1, b1⟩ := kk r u t T'.heap (locs ++ L) e1.symm (by rw [← e2]; exact X'.warmed.alike) hp hb k1 k2 k3 T' rfl X'
    exact ⟨t2, st t2 a1, b1⟩
  · obtain ⟨k1, k2, k3⟩ := vx_keep h0 e1 hS hAX hf hL hF
    obtain ⟨t2, a1, b1⟩ := kx E ce q u t T'.heap (locs ++ L) e1.symm (by rw [← e2]; exact X'.warmed.alike) hp hb k1 k2 k3 (by rw [e1]; exact hce) hcv hcl T' rfl X'
    exact ⟨t2, st.trans a1, b1⟩
theorem vx_calld {S SX : Type} {post : UInt64 → S → Prop} {px : SX → Prop} {B : S → State → Prop} {BX : String → SX → State → Prop} {AX : Nat → Prop} (hr : vx_Run p l e R s m args below meth c H locs cells slots mc ms (F0 m pc ls st0) rest (va_Qd post B A1 a) (vx_X px BX AX) free) (hS : va_S A0 H0 H locs) (hA : ∀ q, q < H.size → A1 q → A0 q) (hf : ∀ q, free q → A0 q) (hAX : ∀ q, q < H.size → AX q → A0 q)
    (kx : ∀ (E : String) (ce : Cell) (q9 : Addr) (u : SX) (t : State) (H1 : Heap) (locs1 : List Loc), t.heap = H1 → s.vm.Alike t.vm → px u → BX E u t → H.size ≤ H1.size → (∀ q : Nat, q < H.size → ¬ AX q → H1[q]? = H[q]?) → va_S A0 H0 H1 locs1 → H1[q9]? = some ce → ce.vm = .none → s.vm.findClass E = some ce.cls → vx_W p l e R s m args below meth c H1 locs1 (cells + mc) (slots + ms) Q (F0 m pc ls rest) q9)
    (kk : ∀ (r : UInt64) (u : S) (t : State) (H1 : Heap) (locs1 : List Loc), t.heap = H1 → s.vm.Alike t.vm → post r u → B u t → H.size ≤ H1.size → (∀ q : Nat, q < H.size → ¬ A1 q → H1[q]? = H[q]?) → va_S A0 H0 H1 locs1 → W p l e R s m args below meth c H1 locs1 (cells + mc) (slots + ms) Q (F0 m (pc + 3) ls (.double r :: rest))) : W p l e R s m args below meth c H locs cells slots Q (F0 m pc ls st0) := by
  intro T hT X
  rcases hr T hT X with ⟨v, st₀, t, T', L, h0, X', hL, e1, e2, ⟨⟨r, u, hv, hp, hb⟩, hF⟩, st⟩ | ⟨q, st₀, t, T', L, E, ce, h0, X', hL, e1, e2, ⟨u, hp, hb, hF⟩, hce, hcv, hcl, st⟩
  · cases hv
    obtain ⟨k1, k2, k3⟩ := vx_keep h0 e1 hS hA hf hL hF
    obtain ⟨t2, a1, b1⟩ := kk r u t T'.heap (locs ++ L) e1.symm (by rw [← e2]; exact X'.warmed.alike) hp hb k1 k2 k3 T' rfl X'
    exact ⟨t2, st t2 a1, b1⟩
  · obtain ⟨k1, k2, k3⟩ := vx_keep h0 e1 hS hAX hf hL hF
    obtain ⟨t2, a1, b1⟩ := kx E ce q u t T'.heap (locs ++ L) e1.symm (by rw [← e2]; exact X'.warmed.alike) hp hb k1 k2 k3 (by rw [e1]; exact hce) hcv hcl T' rfl X'
    exact ⟨t2, st.trans a1, b1⟩
theorem vx_callv {S SX : Type} {post : S → Prop} {px : SX → Prop} {B : S → State → Prop} {BX : String → SX → State → Prop} {AX : Nat → Prop} (hr : vx_Run p l e R s m args below meth c H locs cells slots mc ms (F0 m pc ls st0) rest (va_Qv post B A1 a) (vx_X px BX AX) free) (hS : va_S A0 H0 H locs) (hA : ∀ q, q < H.size → A1 q → A0 q) (hf : ∀ q, free q → A0 q) (hAX : ∀ q, q < H.size → AX q → A0 q)
    (kx : ∀ (E : String) (ce : Cell) (q9 : Addr) (u : SX) (t : State) (H1 : Heap) (locs1 : List Loc), t.heap = H1 → s.vm.Alike t.vm → px u → BX E u t → H.size ≤ H1.size → (∀ q : Nat, q < H.size → ¬ AX q → H1[q]? = H[q]?) → va_S A0 H0 H1 locs1 → H1[q9]? = some ce → ce.vm = .none → s.vm.findClass E = some ce.cls → vx_W p l e R s m args below meth c H1 locs1 (cells + mc) (slots + ms) Q (F0 m pc ls rest) q9)
    (kk : ∀ (u : S) (t : State) (H1 : Heap) (locs1 : List Loc), t.heap = H1 → s.vm.Alike t.vm → post u → B u t → H.size ≤ H1.size → (∀ q : Nat, q < H.size → ¬ A1 q → H1[q]? = H[q]?) → va_S A0 H0 H1 locs1 → W p l e R s m args below meth c H1 locs1 (cells + mc) (slots + ms) Q (F0 m (pc + 3) ls (rest))) : W p l e R s m args below meth c H locs cells slots Q (F0 m pc ls st0) := by
  intro T hT X
  rcases hr T hT X with ⟨v, st₀, t, T', L, h0, X', hL, e1, e2, ⟨⟨u, hv, hp, hb⟩, hF⟩, st⟩ | ⟨q, st₀, t, T', L, E, ce, h0, X', hL, e1, e2, ⟨u, hp, hb, hF⟩, hce, hcv, hcl, st⟩
  · cases hv
    obtain ⟨k1, k2, k3⟩ := vx_keep h0 e1 hS hA hf hL hF
    obtain ⟨t2, a1, b1⟩ := kk u t T'.heap (locs ++ L) e1.symm (by rw [← e2]; exact X'.warmed.alike) hp hb k1 k2 k3 T' rfl X'
    exact ⟨t2, st t2 a1, b1⟩
  · obtain ⟨k1, k2, k3⟩ := vx_keep h0 e1 hS hAX hf hL hF
    obtain ⟨t2, a1, b1⟩ := kx E ce q u t T'.heap (locs ++ L) e1.symm (by rw [← e2]; exact X'.warmed.alike) hp hb k1 k2 k3 (by rw [e1]; exact hce) hcv hcl T' rfl X'
    exact ⟨t2, st.trans a1, b1⟩
/-- caught by the row x of this method's table; the rows ahead don't take it -/
theorem vx_catch {own name : String} {E : String} {ce : Cell} {q : Addr} (hown : s.vm.findClass own = some m.cls) (pre : List ExceptionTableEntry) (x : ExceptionTableEntry) (suf : List ExceptionTableEntry) (hsplit : c.exceptionTable.toList = pre ++ x :: suf)
    (hpass : ∀ z ∈ pre, covers z pc = false ∨ (z.catchType ≠ 0 ∧ ∃ nm : String, (Cond.classLink own z.catchType nm).before args s = true ∧ va_Nc E nm s)) (hx : covers x pc = true) (h0 : x.catchType ≠ 0)
    (hlink : (Cond.classLink own x.catchType name).before args s = true) (hcast : (Cond.castable E name).before args s = true) (hcell : H[q]? = some ce) (hv : ce.vm = .none) (hcl : s.vm.findClass E = some ce.cls)
    (kk : W p l e R s m args below meth c H locs cells slots Q (F0 m x.handlerPc ls [.ref q])) : vx_W p l e R s m args below meth c H locs cells slots Q (F0 m pc ls rest) q := by
  intro T hT X
  have hpl : e.platform.magicAccessors = ({} : Platform).magicAccessors := by rw [X.admits.platform]
  obtain ⟨c3, c4, hc3, hc4, hasg⟩ := Cond.castable_spec hcast
  cases Option.some.inj (hc3.symm.trans hcl)
  obtain ⟨c5, hc5, hcl5⟩ := Cond.classLink_spec hown hlink e.platform hpl
  cases Option.some.inj (hc4.symm.trans hc5)
  obtain ⟨vm', X', st⟩ := X.thenCaughtThrough q (g := F0 m pc ls rest) rfl (Steps.refl _) (by rw [hT]; exact hcell) (by rw [hv]; rfl) (by obtain ⟨k9, h9, -⟩ := Vm.findClass_spec hcl; exact ⟨k9, h9⟩) pre x suf hsplit
    (fun z hz => by
      rcases hpass z hz with h | ⟨hz0, nm, hl1, hn1⟩
      · exact Or.inl h
      · obtain ⟨c6, hc6, hcl6⟩ := Cond.classLink_spec hown hl1 e.platform hpl
        obtain ⟨a8, b8, h1, h2, h3⟩ := hn1
        cases Option.some.inj (h1.symm.trans hcl)
        cases Option.some.inj (h2.symm.trans hc6)
        exact Or.inr ⟨hz0, _, hcl6, h3⟩) hx (Or.inr ⟨h0, c4, hcl5, hasg⟩)
  obtain ⟨t, a1, b1⟩ := kk (T.setVm vm') hT X'
  exact ⟨t, st.trans a1, b1⟩
end Rows
section Ends
variable {p : Program} {l : Launch} {e : Env} {R : Room} {s : State} {m : MethodId} {args : Array Value} {below : List Frame} {meth : Method} {c : Code} {H : Heap} {locs : List Loc} {cells slots : Nat} {Q : State → Prop}
variable {mc ms : Nat} {free : Addr → Prop} {A0 A1 : Nat → Prop} {H0 : Heap} {a : Array Value} {ls : Array Slot} {st0 rest : List Value}
variable {Qc : Array Value → State → Outcome → State → Prop} {XC : String → State → State → Prop}
/-- what a body that may throw owes at its end -/
def vx_MQ (below : List Frame) (Qc : Array Value → State → Outcome → State → Prop) (XC : String → State → State → Prop) (a : Array Value) (s : State) (mc ms : Nat) (free : Addr → Prop) : State → Prop := fun t =>
  ∃ o, t.status = .running ∧ Ended t below o ∧ vx_Q Qc XC mc ms free a s o t
theorem vx_ret {g : JFrame} {mc ms : Nat} (k : W p l e R s m args below meth c H locs cells slots (MQ below Qc args s mc ms free) g) : W p l e R s m args below meth c H locs cells slots (vx_MQ below Qc XC args s mc ms free) g := by
  intro T hT X
  obtain ⟨t, a1, o, b1, b2, b3, b4⟩ := k T hT X
  exact ⟨t, a1, o, b1, b2, Or.inl ⟨b3, b4⟩⟩
/-- not caught here: it goes on to the caller -/
theorem vx_widen {g : JFrame} {q : Addr} {k n : Nat} (h1 : cells ≤ k) (h2 : slots ≤ n) (kk : vx_W p l e R s m args below meth c H locs k n Q g q) : vx_W p l e R s m args below meth c H locs cells slots Q g q := fun T hT X => kk T hT (stand_widen X h1 h2)
theorem vx_out {pc : Nat} {E : String} {ce : Cell} {q : Addr} {mc ms : Nat} (hout : ∀ x ∈ c.exceptionTable.toList, covers x pc = false) (hlocks : meth.locks = false) (hcell : H[q]? = some ce) (hv : ce.vm = .none) (hcl : s.vm.findClass E = some ce.cls)
    (hx : ∀ t : State, t.heap = H → s.vm.Alike t.vm → XC E s t) (hf : ∀ z ∈ locs, free z.base) (hc : cells ≤ mc) (hs : slots ≤ ms) :
    vx_W p l e R s m args below meth c H locs cells slots (vx_MQ below Qc XC args s mc ms free) (F0 m pc ls rest) q := by
  intro T hT X
  obtain ⟨st1, hrun, hend, hW, hsm⟩ := X.leaveThrown q (g := F0 m pc ls rest) rfl rfl rfl hout hlocks
  have hcell9 : (T.setFrames (.throwing q :: below)).heap[q]? = some ce := by
    show T.heap[q]? = some ce
    rw [hT]; exact hcell
  exact ⟨_, st1, .threw q, hrun, hend, Or.inr ⟨q, rfl, E, ce, locs, hx _ hT hW.alike, hcell9, hv, hcl, hW, hsm.mono hc hs, hf⟩⟩
theorem vx_frame {U : State} {k n : Nat} (h : s.sameButNew ({ U with vm := s.vm } : State) locs k n) : s.heap.size ≤ U.heap.size ∧ ∀ q : Nat, q < s.heap.size → (∀ z ∈ locs, z.base ≠ q) → U.heap[q]? = s.heap[q]? := by
  obtain ⟨-, h2, -, -, -, h6⟩ := h
  refine ⟨h2, fun q hq hz => ?_⟩
  obtain ⟨c9, e1, e2, e3, e4⟩ := h6 q _ (Array.getElem?_eq_getElem hq)
  have hs : c9.slots = (s.heap[q]).slots := Array.ext_getElem? fun i => e4 i fun hm => hz _ hm rfl
  have h9 : c9 = s.heap[q] := by
    rw [hs] at e2
    exact e2
  have e5 : U.heap[q]? = some c9 := e1
  rw [e5, h9, Array.getElem?_eq_getElem hq]
/-- the words of a throw but the four that speak of the heap -/
def vx_no (w : Cond) : Bool := decide (w ≠ .isRef (.static Bundle.tN "UNASSIGNED_STACK" Bundle.steD)) && decide (w ≠ .isRef (.static Bundle.tN "SUPPRESSED_SENTINEL" Bundle.listD)) && decide (w ≠ .laysStatic Bundle.tN "UNASSIGNED_STACK" Bundle.steD) && decide (w ≠ .laysStatic Bundle.tN "SUPPRESSED_SENTINEL" Bundle.listD)
def vx_at0 (own : String) (ic : Nat) (X : String) (names : List String) : List Cond := (Bundle.ownAtoms0 own ic X names).filter vx_no
def vx_atS (own : String) (ic : Nat) (X : String) (names : List String) : List Cond := (Bundle.ownAtoms own ic X names).filter vx_no
/-- a word that the tables alone decide, or a good one -/
def vx_ot (w : Cond) : Bool := w.onTables || goodWord w
theorem vx_ot_at {args a' : Array Value} {s U : State} {w : Cond} (hW : s.WarmedH U.vm) (hvm : s.vm = U.vm) (hg : vx_ot w = true) (h : w.before args s = true) : w.before a' U = true := by
  simp only [vx_ot, Bool.or_eq_true] at hg
  rcases hg with hg | hg
  · exact va_tabs hg hvm h
  · exact word_at hW (good_of_word hg) h
/-- a list's words: the good ones out of the method's own list, the others by premises of their own -/
theorem vx_hat {args : Array Value} {s : State} {L B : List Cond} (h1 : ∀ w ∈ L.filter goodWord, w.before args s = true) (h2 : ∀ w ∈ L.filter (fun w => !goodWord w), w ∈ B) (h3 : ∀ w ∈ B, w.before args s = true) : ∀ w ∈ L, w.before args s = true := by
  intro w hw
  by_cases g : goodWord w = true
  · exact h1 w (List.mem_filter.mpr ⟨hw, g⟩)
  · refine h3 w (h2 w (List.mem_filter.mpr ⟨hw, ?_⟩))
    show (!goodWord w) = true
    cases hgw : goodWord w
    · rfl
    · exact absurd hgw g
theorem vx_c {args : Array Value} {s : State} {w : Cond} {B : List Cond} (h : w.before args s = true) (t : ∀ w ∈ B, w.before args s = true) : ∀ w' ∈ w :: B, w'.before args s = true := fun w' h' => (List.mem_cons.mp h').elim (fun e => by rw [e]; exact h) (t w')
theorem vx_n {args : Array Value} {s : State} : ∀ w ∈ ([] : List Cond), w.before args s = true := fun _ h => nomatch h
theorem vx_own {args : Array Value} {s : State} {L : List Cond} (h1 : ∀ w ∈ L.filter vx_no, w.before args s = true)
    (hU : (Cond.isRef (.static Bundle.tN "UNASSIGNED_STACK" Bundle.steD)).before args s = true) (hN : (Cond.isRef (.static Bundle.tN "SUPPRESSED_SENTINEL" Bundle.listD)).before args s = true)
    (lU : (Cond.laysStatic Bundle.tN "UNASSIGNED_STACK" Bundle.steD).before args s = true) (lN : (Cond.laysStatic Bundle.tN "SUPPRESSED_SENTINEL" Bundle.listD).before args s = true) : ∀ w ∈ L, w.before args s = true := by
  intro w hw
  by_cases e1 : w = .isRef (.static Bundle.tN "UNASSIGNED_STACK" Bundle.steD)
  · rw [e1]; exact hU
  · by_cases e2 : w = .isRef (.static Bundle.tN "SUPPRESSED_SENTINEL" Bundle.listD)
    · rw [e2]; exact hN
    · by_cases e3 : w = .laysStatic Bundle.tN "UNASSIGNED_STACK" Bundle.steD
      · rw [e3]; exact lU
      · by_cases e4 : w = .laysStatic Bundle.tN "SUPPRESSED_SENTINEL" Bundle.listD
        · rw [e4]; exact lN
        · exact h1 w (List.mem_filter.mpr ⟨hw, by unfold vx_no; rw [decide_eq_true e1, decide_eq_true e2, decide_eq_true e3, decide_eq_true e4]; rfl⟩)
/-- where a static field lies, its class's statics cell in H -/
def vx_L (C n d : String) (A : Nat → Prop) (U : State) (H : Heap) : Prop := ∃ (c : ClassId) (k : Class) (i : Nat) (f : Field) (a : Nat) (cell : Cell), U.vm.findClass C = some c ∧ U.fieldFound? C n d = some (c, k, i, f) ∧ f.isStatic = true ∧ k.statics = some a ∧ H[a]? = some cell ∧ cell.vm.isStatics = true ∧ cell.cls = c ∧ f.slot < cell.slots.size ∧ k.staticTypes[f.slot]? = some f.type ∧ ¬ A a
theorem vx_L.moved {C n d : String} {A : Nat → Prop} {u U : State} {H : Heap} (hvm : u.vm.Alike U.vm) (h : vx_L C n d A u H) : vx_L C n d A U H := by
  obtain ⟨c, k, i, f, a, cell, h1, h2, h3, h4, h5, h6, h7, h8, h9, h10⟩ := h
  obtain ⟨k', hi', he⟩ := State.fieldFound?_setVm hvm h2
  exact ⟨c, k', i, f, a, cell, by rw [hvm.findClass]; exact h1, hi', h3, by rw [he]; exact h4, h5, h6, h7, h8, by rw [he]; exact h9, h10⟩
theorem vx_L.kept {C n d : String} {A : Nat → Prop} {U : State} {H H1 : Heap} (h : vx_L C n d A U H) (hq : ∀ a : Nat, a < H.size → ¬ A a → H1[a]? = H[a]?) : vx_L C n d A U H1 := by
  obtain ⟨c, k, i, f, a, cell, h1, h2, h3, h4, h5, h6, h7, h8, h9, h10⟩ := h
  exact ⟨c, k, i, f, a, cell, h1, h2, h3, h4, by rw [hq a (Array.getElem?_eq_some_iff.mp h5).1 h10]; exact h5, h6, h7, h8, h9, h10⟩
theorem vx_L.narrow {C n d : String} {A B : Nat → Prop} {U : State} {H : Heap} (h : vx_L C n d A U H) (hAB : ∀ q, B q → A q) : vx_L C n d B U H := by
  obtain ⟨c, k, i, f, a, cell, h1, h2, h3, h4, h5, h6, h7, h8, h9, h10⟩ := h
  exact ⟨c, k, i, f, a, cell, h1, h2, h3, h4, h5, h6, h7, h8, h9, fun z => h10 (hAB _ z)⟩
theorem vx_L.word {C n d : String} {A : Nat → Prop} {s : State} {args : Array Value} (h : vx_L C n d A s s.heap) : (Cond.laysStatic C n d).before args s = true := by
  obtain ⟨c, k, i, f, a, cell, h1, h2, h3, h4, h5, h6, h7, h8, h9, -⟩ := h
  show (Cond.laysStatic C n d).holds args s none s [] = true
  exact Cond.laysStatic_of h1 h2 h3 h4 h5 h6 h7 h8 h9
/-- .. and what it holds: null or some reference -/
def vx_Zq (C n d : String) (A : Nat → Prop) (U : State) (H : Heap) : Prop := va_Zq C n d A U H ∧ vx_L C n d A U H
theorem vx_Zq.moved {C n d : String} {A : Nat → Prop} {u U : State} {H : Heap} (hvm : u.vm.Alike U.vm) (h : vx_Zq C n d A u H) : vx_Zq C n d A U H := ⟨va_Zq.moved hvm h.1, vx_L.moved hvm h.2⟩
theorem vx_Zq.kept {C n d : String} {A : Nat → Prop} {U : State} {H H1 : Heap} (h : vx_Zq C n d A U H) (hq : ∀ a : Nat, a < H.size → ¬ A a → H1[a]? = H[a]?) : vx_Zq C n d A U H1 := ⟨va_Zq.kept h.1 hq, vx_L.kept h.2 hq⟩
theorem vx_Zq.narrow {C n d : String} {A B : Nat → Prop} {U : State} {H : Heap} (h : vx_Zq C n d A U H) (hAB : ∀ q, B q → A q) : vx_Zq C n d B U H := ⟨va_Zq.narrow h.1 hAB, vx_L.narrow h.2 hAB⟩
theorem vx_Zqof {args : Array Value} {s : State} {C n d : String} {A : Nat → Prop} (hl : (Cond.laysStatic C n d).before args s = true) (hini : (Cond.initialized C).before args s = true) (h : (Cond.isRef (.static C n d)).before args s = true) (hA : ∀ a : Nat, a < s.heap.size → ¬ A a) : vx_Zq C n d A s s.heap := by
  refine ⟨va_Zqof hl hini h hA, ?_⟩
  obtain ⟨c, k, i, f, a, cell, h1, h2, h3, h4, h5, h6, h7, h8, h9⟩ := Cond.laysStatic_spec hl
  exact ⟨c, k, i, f, a, cell, h1, h2, h3, h4, h5, h6, h7, h8, h9, hA a (Array.getElem?_eq_some_iff.mp h5).1⟩
theorem vx_isRef {C n d : String} {v : Value} {A : Nat → Prop} {s : State} {args : Array Value} (h : va_Z C n d v A s s.heap) (hv : v.isRef = true) : (Cond.isRef (.static C n d)).before args s = true := by
  obtain ⟨cf, kf, fi, f, a, cell, h1, h2, h3, h4, h5, h6, h7, -⟩ := h
  have he : (Term.static C n d).eval args s none [] s = some v := by
    simp [Term.eval, State.fieldNamed?, h1, h2, h4, h5, h6, h7]
  simp only [Cond.before, Cond.holds, Cond.value, he]
  cases v <;> simp_all [Value.isRef]
theorem vx_isRefq {C n d : String} {A : Nat → Prop} {s : State} {args : Array Value} (h : va_Zq C n d A s s.heap) : (Cond.isRef (.static C n d)).before args s = true := by
  rcases h with h | ⟨t, h⟩
  · exact vx_isRef h rfl
  · exact vx_isRef h rfl
/-- the same frame, seen from here: as if the method were called anew in this heap -/
theorem vx_rebase {T : State} (X : Stand p l e R s m args below meth c T locs cells slots) {R' : Room} (hf : R'.frames ≤ R.frames) (hl : R'.locals ≤ R.locals) (hc : cells + R'.cells ≤ R.cells) (hs : slots + R'.slots ≤ R.slots) :
    Stand p l e R' ((T.setVm s.vm).setFrames (.invoking m args :: below)) m args below meth c T [] 0 0 := by
  have htop : (T.setVm s.vm).topJava?.isSome := X.here.top
  have hF : ((T.setVm s.vm).setFrames (.invoking m args :: below)).frames = .invoking m args :: below := State.frames_setFrames _ (State.cur_lt_of_top htop)
  obtain ⟨g₀, hg0⟩ := Option.isSome_iff_exists.mp htop
  obtain ⟨r, hr⟩ := State.topJava?_eq_some.mp hg0
  have hl9 : e.platform.stackLimits (T.setVm s.vm).me = e.platform.stackLimits s.me := X.limits
  have hb9 : (T.setVm s.vm).me.stackBytes = s.me.stackBytes := X.bytes
  refine ⟨X.admits, X.cas, X.clock, hF, ?_, X.hears, X.method, X.code, X.here, X.tail, X.warmed, ?_, ?_, ?_⟩
  · have h := X.room
    have hU : ((T.setVm s.vm).setFrames (.invoking m args :: below)).localsInUse = s.localsInUse := by
      rw [State.localsInUse_invoking hF (meth := meth) (c := c) X.method X.code, State.localsInUse_invoking X.frames X.method X.code]
    simp only [State.hasRoom, Bool.and_eq_true, decide_eq_true_eq] at h ⊢
    obtain ⟨⟨⟨⟨h1, h2, h3, h4, h5, h6⟩, h7⟩, h8⟩, h9⟩ := h
    rw [X.frames, List.length_cons] at h2 h3
    have q1 := X.heapSize
    have q2 := X.used
    simp only [hF, hU, List.length_cons, State.stackLimits_setFrames, State.stackBytes_setFrames, hl9, hb9]
    refine ⟨⟨⟨⟨by omega, by omega, by omega, by omega, by omega, h6⟩, ?_⟩, ?_⟩, X.book⟩
    · show T.heap.size + R'.cells ≤ e.platform.maxCells
      omega
    · show T.slotsUsed + R'.slots ≤ e.platform.maxSlots
      omega
  · rw [State.stackLimits_setFrames]; rfl
  · rw [State.stackBytes_setFrames]; rfl
  · refine ⟨?_, Nat.le_refl _, Nat.le_refl _, ?_, ?_, fun a c9 h9 => ⟨c9, h9, rfl, rfl, fun _ _ => rfl⟩⟩
    · obtain ⟨t, ht, -⟩ := State.frames_cons hr
      show T.setVm s.vm = { ((T.setVm s.vm).setFrames (.invoking m args :: below)).setFrames (T.setVm s.vm).frames with heap := T.heap, slotsUsed := T.slotsUsed }
      rw [State.setFrames_setFrames, State.setFrames_self ht]
      rfl
    · show T.slotsUsed = T.slotsUsed + ((T.heap.toList.drop T.heap.size).map (·.slots.size)).sum
      rw [List.drop_eq_nil_of_le (Nat.le_of_eq Array.length_toList)]
      rfl
    · show ((T.heap.toList.drop T.heap.size).map (·.slots.size)).sum ≤ 0
      rw [List.drop_eq_nil_of_le (Nat.le_of_eq Array.length_toList)]
      exact Nat.le_refl _
/-- 'throw new E()': new; dup; invokespecial; athrow -/
theorem vx_throw0 {cc : ByteArray} {pc : Nat} (hexec : p.tables.exec = Jvm.exec) (hb : c.code = cc) (hl : l.stackTraces = false) {own cls : String} {names : List String} {ik ic mc ms : Nat} {A : Nat → Prop}
    (hown : s.vm.findClass own = some m.cls) (hcls : Bundle.fit cls = true) (hnames : ∀ n ∈ names, Bundle.fit n = true)
    (hk : (Cond.classLink own ik cls).before args s = true) (hini : (Cond.initialized cls).before args s = true) (hat : ∀ w ∈ vx_at0 own ic cls names, w.before args s = true)
    (hgood : ∀ w ∈ Cond.classLink own ik cls :: Cond.initialized cls :: vx_at0 own ic cls names, vx_ot w = true)
    (hU : vx_Zq Bundle.tN "UNASSIGNED_STACK" Bundle.steD A s s.heap) (hN : vx_Zq Bundle.tN "SUPPRESSED_SENTINEL" Bundle.listD A s s.heap) (hS : va_S A s.heap H locs) (hsize : ls.size = c.maxLocals)
    (d0 : decode cc pc = .ok (.new ik, 3)) (d3 : decode cc (pc + 3) = .ok (.dup, 1)) (d4 : decode cc (pc + 4) = .ok (.invokespecial ic, 3)) (d7 : decode cc (pc + 7) = .ok (.athrow, 1))
    (hout : ∀ x ∈ c.exceptionTable.toList, covers x (pc + 7) = false)
    (hRframes : names.length + 3 < R.frames) (hRlocals : (rest.map fun v => v.category).sum + (13 * (names.length + 1) + 42) ≤ R.locals) (hRcells : cells + 1 ≤ R.cells) (hRslots : slots + 6 ≤ R.slots) (hlocks : meth.locks = false)
    (hx : ∀ t : State, s.vm.Alike t.vm → H.size ≤ t.heap.size → (∀ q : Nat, q < H.size → t.heap[q]? = H[q]?) → XC cls s t)
    (hf : ∀ z ∈ locs, free z.base) (hc : cells + 1 ≤ mc) (hs : slots + 6 ≤ ms) :
    W p l e R s m args below meth c H locs cells slots (vx_MQ below Qc XC args s mc ms free) (F0 m pc ls rest) := by
  intro T hT X
  have htr : e.platform.stackTraces = false := (show e.platform.stackTraces = l.stackTraces by rw [X.admits.platform]).trans hl
  have Y := vx_rebase X (R' := { frames := R.frames, locals := R.locals, cells := 1, slots := 6 }) (Nat.le_refl _) (Nat.le_refl _) hRcells hRslots
  obtain ⟨s', hA⟩ : ∃ z, z = (T.setVm s.vm).setFrames (.invoking m args :: below) := ⟨_, rfl⟩
  rw [← hA] at Y
  have hvm : s'.vm = s.vm := by rw [hA]; rfl
  have hhp : s'.heap = H := by rw [hA]; exact hT
  have hW0 : s.WarmedH s'.vm := by rw [hvm]; exact State.WarmedH.refl s
  have hat' : ∀ w ∈ vx_at0 own ic cls names, w.before args s' = true := fun w hw => vx_ot_at hW0 hvm.symm (hgood w (List.mem_cons_of_mem _ (List.mem_cons_of_mem _ hw))) (hat w hw)
  have hk' : (Cond.classLink own ik cls).before args s' = true := vx_ot_at hW0 hvm.symm (hgood _ List.mem_cons_self) hk
  have hini' : (Cond.initialized cls).before args s' = true := vx_ot_at hW0 hvm.symm (hgood _ (List.mem_cons_of_mem _ List.mem_cons_self)) hini
  have hU' : vx_Zq Bundle.tN "UNASSIGNED_STACK" Bundle.steD A s' s'.heap := by rw [hhp]; exact vx_Zq.moved hW0.alike (hU.kept hS.2.1)
  have hN' : vx_Zq Bundle.tN "SUPPRESSED_SENTINEL" Bundle.listD A s' s'.heap := by rw [hhp]; exact vx_Zq.moved hW0.alike (hN.kept hS.2.1)
  have h : ∀ w ∈ Bundle.ownAtoms0 own ic cls names, w.before args s' = true := vx_own hat' (vx_isRefq hU'.1) (vx_isRefq hN'.1) hU'.2.word hN'.2.word
  have hown' : s'.vm.findClass own = some m.cls := by rw [hvm]; exact hown
  have hins : (Cond.instantiable cls 6).before args s' = true := h _ (by simp [Bundle.ownAtoms0])
  obtain ⟨vm₁, cX, kX, hfX, hkX, -, -, X₁, st1⟩ := Y.newCold hexec (own := own) (C := cls) (index := ik) (n := 6) hown' hk' hins hini'
    (g := F0 m pc ls rest) rfl (by rw [hb]; exact d0) (Nat.le_refl _) (Nat.le_refl _)
  generalize hT1 : (T.setVm vm₁).pushCell { cls := cX, slots := kX.instanceTypes.map defaultValue, vm := .none } = T1 at X₁ st1
  have hcat : (Value.ref T.heap.size).category = 1 := rfl
  have hcellA : T1.heap[T.heap.size]? = some (freshCell cX kX) := by rw [← hT1]; exact State.heap_pushCell_size _ _
  have d3' : decode c.code (pc + 3) = .ok (.dup, 1) := by rw [hb]; exact d3
  obtain ⟨U, hsteps, hrun, hend, hW, hsame, ce, hce, hO⟩ := X₁.ctorThrow0 hexec htr (own := own) (cls := cls) (names := names) (ic := ic) hown' hcls hnames h (fun x hx => nomatch hx) hfX hkX hcellA (by rw [hhp, hT]; exact Nat.le_refl _)
    (g := { method := m, pc := pc + 4, locals := ls, stack := .ref T.heap.size :: .ref T.heap.size :: rest, locked := none }) rfl hsize rfl rfl (rest := rest) rfl
    (by rw [hb]; exact d4) (by rw [hb]; exact d7) hout hRframes (by simp only [List.map_cons, List.sum_cons, hcat]; omega) hlocks
  obtain ⟨f1, f2⟩ := vx_frame hsame
  rw [hhp] at f1 f2
  have hWs : s.WarmedH U.vm := State.WarmedH.trans hW0 hW
  have hcl : s.vm.findClass cls = some ce.cls := by
    have h9 := hO.cls
    rw [hvm] at h9
    exact h9
  have hall : s.sameButNew ({ U with vm := s.vm } : State) locs mc ms := by
    subst hA
    obtain ⟨e1, e2⟩ := hsame
    rw [State.setFrames_setFrames] at e1
    have h2 : (T.setVm s.vm).sameButNew ({ U with vm := s.vm } : State) [] (0 + 1) (0 + 6) := ⟨e1, e2⟩
    have h3 := X.same.trans h2
    rw [List.append_nil] at h3
    exact h3.mono hc hs
  refine ⟨U, ?_, .threw T.heap.size, hrun, hend, Or.inr ⟨T.heap.size, rfl, cls, ce, locs, hx U hWs.alike f1 (fun q hq => f2 q hq (fun z hz => nomatch hz)), hce, hO.vm, hcl, hWs, hall, hf⟩⟩
  refine st1 _ ?_
  show Steps p.tables e below (T1.setTop { method := m, pc := pc + 3, locals := ls, stack := .ref T.heap.size :: rest, locked := none }) _
  jvm_step X₁.here [X₁.here.top, hexec, d3', Value.category]
  exact hsteps
/-- 'throw new E("text")': new; dup; ldc; invokespecial; athrow -/
theorem vx_throwS {cc : ByteArray} {pc : Nat} (hexec : p.tables.exec = Jvm.exec) (hb : c.code = cc) (hl : l.stackTraces = false) {own cls text : String} {names : List String} {ik is ic mc ms sa : Nat} {A : Nat → Prop}
    (hown : s.vm.findClass own = some m.cls) (hcls : Bundle.fit cls = true) (hnames : ∀ n ∈ names, Bundle.fit n = true)
    (hk : (Cond.classLink own ik cls).before args s = true) (hini : (Cond.initialized cls).before args s = true) (hstr : vk_R own is text sa s) (hat : ∀ w ∈ vx_atS own ic cls names, w.before args s = true)
    (hgood : ∀ w ∈ Cond.classLink own ik cls :: Cond.initialized cls :: vx_atS own ic cls names, vx_ot w = true)
    (hU : vx_Zq Bundle.tN "UNASSIGNED_STACK" Bundle.steD A s s.heap) (hN : vx_Zq Bundle.tN "SUPPRESSED_SENTINEL" Bundle.listD A s s.heap) (hS : va_S A s.heap H locs) (hsize : ls.size = c.maxLocals)
    (d0 : decode cc pc = .ok (.new ik, 3)) (d3 : decode cc (pc + 3) = .ok (.dup, 1)) (d4 : decode cc (pc + 4) = .ok (.ldc is, 2)) (d6 : decode cc (pc + 6) = .ok (.invokespecial ic, 3)) (d9 : decode cc (pc + 9) = .ok (.athrow, 1))
    (hout : ∀ x ∈ c.exceptionTable.toList, covers x (pc + 9) = false)
    (hRframes : names.length + 3 < R.frames) (hRlocals : (rest.map fun v => v.category).sum + (13 * (names.length + 1) + 43) ≤ R.locals) (hRcells : cells + 1 ≤ R.cells) (hRslots : slots + 6 ≤ R.slots) (hlocks : meth.locks = false)
    (hx : ∀ t : State, s.vm.Alike t.vm → H.size ≤ t.heap.size → (∀ q : Nat, q < H.size → t.heap[q]? = H[q]?) → XC cls s t)
    (hf : ∀ z ∈ locs, free z.base) (hc : cells + 1 ≤ mc) (hs : slots + 6 ≤ ms) :
    W p l e R s m args below meth c H locs cells slots (vx_MQ below Qc XC args s mc ms free) (F0 m pc ls rest) := by
  intro T hT X
  have htr : e.platform.stackTraces = false := (show e.platform.stackTraces = l.stackTraces by rw [X.admits.platform]).trans hl
  have Y := vx_rebase X (R' := { frames := R.frames, locals := R.locals, cells := 1, slots := 6 }) (Nat.le_refl _) (Nat.le_refl _) hRcells hRslots
  obtain ⟨s', hA⟩ : ∃ z, z = (T.setVm s.vm).setFrames (.invoking m args :: below) := ⟨_, rfl⟩
  rw [← hA] at Y
  have hvm : s'.vm = s.vm := by rw [hA]; rfl
  have hhp : s'.heap = H := by rw [hA]; exact hT
  have hW0 : s.WarmedH s'.vm := by rw [hvm]; exact State.WarmedH.refl s
  have hat' : ∀ w ∈ vx_atS own ic cls names, w.before args s' = true := fun w hw => vx_ot_at hW0 hvm.symm (hgood w (List.mem_cons_of_mem _ (List.mem_cons_of_mem _ hw))) (hat w hw)
  have hk' : (Cond.classLink own ik cls).before args s' = true := vx_ot_at hW0 hvm.symm (hgood _ List.mem_cons_self) hk
  have hini' : (Cond.initialized cls).before args s' = true := vx_ot_at hW0 hvm.symm (hgood _ (List.mem_cons_of_mem _ List.mem_cons_self)) hini
  have hU' : vx_Zq Bundle.tN "UNASSIGNED_STACK" Bundle.steD A s' s'.heap := by rw [hhp]; exact vx_Zq.moved hW0.alike (hU.kept hS.2.1)
  have hN' : vx_Zq Bundle.tN "SUPPRESSED_SENTINEL" Bundle.listD A s' s'.heap := by rw [hhp]; exact vx_Zq.moved hW0.alike (hN.kept hS.2.1)
  have h : ∀ w ∈ Bundle.ownAtoms own ic cls names, w.before args s' = true := vx_own hat' (vx_isRefq hU'.1) (vx_isRefq hN'.1) hU'.2.word hN'.2.word
  have hown' : s'.vm.findClass own = some m.cls := by rw [hvm]; exact hown
  have hins : (Cond.instantiable cls 6).before args s' = true := h _ (by simp [Bundle.ownAtoms])
  obtain ⟨vm₁, cX, kX, hfX, hkX, -, -, X₁, st1⟩ := Y.newCold hexec (own := own) (C := cls) (index := ik) (n := 6) hown' hk' hins hini'
    (g := F0 m pc ls rest) rfl (by rw [hb]; exact d0) (Nat.le_refl _) (Nat.le_refl _)
  generalize hT1 : (T.setVm vm₁).pushCell { cls := cX, slots := kX.instanceTypes.map defaultValue, vm := .none } = T1 at X₁ st1
  have hcat : (Value.ref T.heap.size).category = 1 := rfl
  have hcellA : T1.heap[T.heap.size]? = some (freshCell cX kX) := by rw [← hT1]; exact State.heap_pushCell_size _ _
  have d3' : decode c.code (pc + 3) = .ok (.dup, 1) := by rw [hb]; exact d3
  have d4' : decode c.code (pc + 4) = .ok (.ldc is, 2) := by rw [hb]; exact d4
  have hstr' : vk_R own is text sa s' := vk_R.warm hW0 hstr
  obtain ⟨U, hsteps, hrun, hend, hW, hsame, ce, hce, hO⟩ := X₁.ctorThrowS hexec htr (own := own) (cls := cls) (names := names) (ic := ic) hown' hcls hnames h (fun x hx => nomatch hx) hfX hkX hcellA (by rw [hhp, hT]; exact Nat.le_refl _) (msg := .ref sa) rfl
    (g := { method := m, pc := pc + 6, locals := ls, stack := .ref sa :: .ref T.heap.size :: .ref T.heap.size :: rest, locked := none }) rfl hsize rfl rfl (rest := rest) rfl
    (by rw [hb]; exact d6) (by rw [hb]; exact d9) hout hRframes (by simp only [List.map_cons, List.sum_cons, hcat]; omega) hlocks
  obtain ⟨f1, f2⟩ := vx_frame hsame
  rw [hhp] at f1 f2
  have hWs : s.WarmedH U.vm := State.WarmedH.trans hW0 hW
  have hcl : s.vm.findClass cls = some ce.cls := by
    have h9 := hO.cls
    rw [hvm] at h9
    exact h9
  have hall : s.sameButNew ({ U with vm := s.vm } : State) locs mc ms := by
    subst hA
    obtain ⟨e1, e2⟩ := hsame
    rw [State.setFrames_setFrames] at e1
    have h2 : (T.setVm s.vm).sameButNew ({ U with vm := s.vm } : State) [] (0 + 1) (0 + 6) := ⟨e1, e2⟩
    have h3 := X.same.trans h2
    rw [List.append_nil] at h3
    exact h3.mono hc hs
  refine ⟨U, ?_, .threw T.heap.size, hrun, hend, Or.inr ⟨T.heap.size, rfl, cls, ce, locs, hx U hWs.alike f1 (fun q hq => f2 q hq (fun z hz => nomatch hz)), hce, hO.vm, hcl, hWs, hall, hf⟩⟩
  refine st1 _ ?_
  show Steps p.tables e below (T1.setTop { method := m, pc := pc + 3, locals := ls, stack := .ref T.heap.size :: rest, locked := none }) _
  jvm_step X₁.here [X₁.here.top, hexec, d3', Value.category]
  exact X₁.ldcString hexec (own := own) (text := text) (index := is) (a := sa) hown' hstr'.1 hstr'.2
    (g := { method := m, pc := pc + 4, locals := ls, stack := .ref T.heap.size :: .ref T.heap.size :: rest, locked := none }) rfl d4' _ hsteps
/-- 'throw new E("text")', the text by a wide index -/
theorem vx_throwSW {cc : ByteArray} {pc : Nat} (hexec : p.tables.exec = Jvm.exec) (hb : c.code = cc) (hl : l.stackTraces = false) {own cls text : String} {names : List String} {ik is ic mc ms sa : Nat} {A : Nat → Prop}
    (hown : s.vm.findClass own = some m.cls) (hcls : Bundle.fit cls = true) (hnames : ∀ n ∈ names, Bundle.fit n = true)
    (hk : (Cond.classLink own ik cls).before args s = true) (hini : (Cond.initialized cls).before args s = true) (hstr : vk_R own is text sa s) (hat : ∀ w ∈ vx_atS own ic cls names, w.before args s = true)
    (hgood : ∀ w ∈ Cond.classLink own ik cls :: Cond.initialized cls :: vx_atS own ic cls names, vx_ot w = true)
    (hU : vx_Zq Bundle.tN "UNASSIGNED_STACK" Bundle.steD A s s.heap) (hN : vx_Zq Bundle.tN "SUPPRESSED_SENTINEL" Bundle.listD A s s.heap) (hS : va_S A s.heap H locs) (hsize : ls.size = c.maxLocals)
    (d0 : decode cc pc = .ok (.new ik, 3)) (d3 : decode cc (pc + 3) = .ok (.dup, 1)) (d4 : decode cc (pc + 4) = .ok (.ldc_w is, 3)) (d7 : decode cc (pc + 7) = .ok (.invokespecial ic, 3)) (d10 : decode cc (pc + 10) = .ok (.athrow, 1))
    (hout : ∀ x ∈ c.exceptionTable.toList, covers x (pc + 10) = false)
    (hRframes : names.length + 3 < R.frames) (hRlocals : (rest.map fun v => v.category).sum + (13 * (names.length + 1) + 43) ≤ R.locals) (hRcells : cells + 1 ≤ R.cells) (hRslots : slots + 6 ≤ R.slots) (hlocks : meth.locks = false)
    (hx : ∀ t : State, s.vm.Alike t.vm → H.size ≤ t.heap.size → (∀ q : Nat, q < H.size → t.heap[q]? = H[q]?) → XC cls s t)
    (hf : ∀ z ∈ locs, free z.base) (hc : cells + 1 ≤ mc) (hs : slots + 6 ≤ ms) :
    W p l e R s m args below meth c H locs cells slots (vx_MQ below Qc XC args s mc ms free) (F0 m pc ls rest) := by
  intro T hT X
  have htr : e.platform.stackTraces = false := (show e.platform.stackTraces = l.stackTraces by rw [X.admits.platform]).trans hl
  have Y := vx_rebase X (R' := { frames := R.frames, locals := R.locals, cells := 1, slots := 6 }) (Nat.le_refl _) (Nat.le_refl _) hRcells hRslots
  obtain ⟨s', hA⟩ : ∃ z, z = (T.setVm s.vm).setFrames (.invoking m args :: below) := ⟨_, rfl⟩
  rw [← hA] at Y
  have hvm : s'.vm = s.vm := by rw [hA]; rfl
  have hhp : s'.heap = H := by rw [hA]; exact hT
  have hW0 : s.WarmedH s'.vm := by rw [hvm]; exact State.WarmedH.refl s
  have hat' : ∀ w ∈ vx_atS own ic cls names, w.before args s' = true := fun w hw => vx_ot_at hW0 hvm.symm (hgood w (List.mem_cons_of_mem _ (List.mem_cons_of_mem _ hw))) (hat w hw)
  have hk' : (Cond.classLink own ik cls).before args s' = true := vx_ot_at hW0 hvm.symm (hgood _ List.mem_cons_self) hk
  have hini' : (Cond.initialized cls).before args s' = true := vx_ot_at hW0 hvm.symm (hgood _ (List.mem_cons_of_mem _ List.mem_cons_self)) hini
  have hU' : vx_Zq Bundle.tN "UNASSIGNED_STACK" Bundle.steD A s' s'.heap := by rw [hhp]; exact vx_Zq.moved hW0.alike (hU.kept hS.2.1)
  have hN' : vx_Zq Bundle.tN "SUPPRESSED_SENTINEL" Bundle.listD A s' s'.heap := by rw [hhp]; exact vx_Zq.moved hW0.alike (hN.kept hS.2.1)
  have h : ∀ w ∈ Bundle.ownAtoms own ic cls names, w.before args s' = true := vx_own hat' (vx_isRefq hU'.1) (vx_isRefq hN'.1) hU'.2.word hN'.2.word
  have hown' : s'.vm.findClass own = some m.cls := by rw [hvm]; exact hown
  have hins : (Cond.instantiable cls 6).before args s' = true := h _ (by simp [Bundle.ownAtoms])
  obtain ⟨vm₁, cX, kX, hfX, hkX, -, -, X₁, st1⟩ := Y.newCold hexec (own := own) (C := cls) (index := ik) (n := 6) hown' hk' hins hini'
    (g := F0 m pc ls rest) rfl (by rw [hb]; exact d0) (Nat.le_refl _) (Nat.le_refl _)
  generalize hT1 : (T.setVm vm₁).pushCell { cls := cX, slots := kX.instanceTypes.map defaultValue, vm := .none } = T1 at X₁ st1
  have hcat : (Value.ref T.heap.size).category = 1 := rfl
  have hcellA : T1.heap[T.heap.size]? = some (freshCell cX kX) := by rw [← hT1]; exact State.heap_pushCell_size _ _
  have d3' : decode c.code (pc + 3) = .ok (.dup, 1) := by rw [hb]; exact d3
  have d4' : decode c.code (pc + 4) = .ok (.ldc_w is, 3) := by rw [hb]; exact d4
  have hstr' : vk_R own is text sa s' := vk_R.warm hW0 hstr
  obtain ⟨U, hsteps, hrun, hend, hW, hsame, ce, hce, hO⟩ := X₁.ctorThrowS hexec htr (own := own) (cls := cls) (names := names) (ic := ic) hown' hcls hnames h (fun x hx => nomatch hx) hfX hkX hcellA (by rw [hhp, hT]; exact Nat.le_refl _) (msg := .ref sa) rfl
    (g := { method := m, pc := pc + 7, locals := ls, stack := .ref sa :: .ref T.heap.size :: .ref T.heap.size :: rest, locked := none }) rfl hsize rfl rfl (rest := rest) rfl
    (by rw [hb]; exact d7) (by rw [hb]; exact d10) hout hRframes (by simp only [List.map_cons, List.sum_cons, hcat]; omega) hlocks
  obtain ⟨f1, f2⟩ := vx_frame hsame
  rw [hhp] at f1 f2
  have hWs : s.WarmedH U.vm := State.WarmedH.trans hW0 hW
  have hcl : s.vm.findClass cls = some ce.cls := by
    have h9 := hO.cls
    rw [hvm] at h9
    exact h9
  have hall : s.sameButNew ({ U with vm := s.vm } : State) locs mc ms := by
    subst hA
    obtain ⟨e1, e2⟩ := hsame
    rw [State.setFrames_setFrames] at e1
    have h2 : (T.setVm s.vm).sameButNew ({ U with vm := s.vm } : State) [] (0 + 1) (0 + 6) := ⟨e1, e2⟩
    have h3 := X.same.trans h2
    rw [List.append_nil] at h3
    exact h3.mono hc hs
  refine ⟨U, ?_, .threw T.heap.size, hrun, hend, Or.inr ⟨T.heap.size, rfl, cls, ce, locs, hx U hWs.alike f1 (fun q hq => f2 q hq (fun z hz => nomatch hz)), hce, hO.vm, hcl, hWs, hall, hf⟩⟩
  refine st1 _ ?_
  show Steps p.tables e below (T1.setTop { method := m, pc := pc + 3, locals := ls, stack := .ref T.heap.size :: rest, locked := none }) _
  jvm_step X₁.here [X₁.here.top, hexec, d3', Value.category]
  exact X₁.ldcStringW hexec (own := own) (text := text) (index := is) (a := sa) hown' hstr'.1 hstr'.2
    (g := { method := m, pc := pc + 4, locals := ls, stack := .ref T.heap.size :: .ref T.heap.size :: rest, locked := none }) rfl d4' _ hsteps
end Ends
section Bodies
variable {l : Launch}
theorem vx_ofW {y : MethodName} {ws ws' : List Cond} {rm : Room} {Pc : Array Value → State → Prop} {Qc : Array Value → State → Outcome → State → Prop} {XC : String → State → State → Prop} {mc ms : Nat} {free : Addr → Prop} {cc : ByteArray} {maxL : Nat} {ret : Option FieldType}
    (hy : plainName y.cls = true) (hw : ws = Cond.code y cc maxL ret :: ws')
    (body : ∀ p e s m args below meth c s₁, BodyLoose p l y (headSpec ws rm) cc maxL ret e s m args below meth c s₁ → c.maxLocals = maxL → (∀ x ∈ c.exceptionTable.toList, False) → Pc args s →
      W p l e (headSpec ws rm).room s m args below meth c s.heap [] 0 0 (vx_MQ below Qc XC args s mc ms free) (entryFrame m args maxL)) : vx_Met l y ws rm Pc Qc XC mc ms free := by
  refine MetFree.of_bodyS (code := cc) (maxLocals := maxL) (ret := ret) hy ?_ ?_
  · intro args s m h hn
    obtain ⟨meth, c, h1, h2, h3, h4, h5, h6, -, -⟩ := Cond.code_spec hn (atoms_spec (ws := ws) h _ (by rw [hw]; exact List.mem_cons_self))
    exact ⟨meth, c, h1, h2, h3, h4, h5, h6⟩
  · intro p e s m args below meth c s₁ B hml hP _
    have hh0 : s₁.heap = s.heap := by rw [B.state]; rfl
    have ht : ∀ x ∈ c.exceptionTable.toList, False := by
      obtain ⟨meth9, c9, h1, h2, -, -, -, -, h7, -⟩ := Cond.code_spec B.named (atoms_spec (ws := ws) B.pre _ (by rw [hw]; exact List.mem_cons_self))
      cases Option.some.inj (h1.symm.trans B.method)
      cases Option.some.inj (h2.symm.trans (Stand.of_body B).code)
      intro x hx
      rw [Array.isEmpty_iff.mp h7] at hx
      cases hx
    obtain ⟨t, a1, o, b1, b2, b3⟩ := body p e s m args below meth c s₁ B hml ht hP s₁ hh0 (Stand.of_body B)
    exact ⟨t, o, a1, b1, b2, b3⟩
/-- the table of a body with handlers -/
theorem vx_table {p : Program} {x y : MethodName} {S : Spec} {cc bytes : ByteArray} {maxL maxL' : Nat} {ret ret' : Option FieldType} {e : Env} {s s₁ : State} {m : MethodId} {args : Array Value} {below : List Frame} {meth : Method} {c : Code} {hh : List (Nat × Nat × Nat × Nat)}
    (B : BodyLoose p l y S cc maxL ret e s m args below meth c s₁) (h : (Cond.codeWith y bytes maxL' ret' hh).before args s = true) : c.exceptionTable.toList = tableOf hh := by
  obtain ⟨m9, meth9, c9, hn9, h1, h2, -, -, h6, -⟩ := Cond.codeWith_spec h
  cases Option.some.inj (hn9.symm.trans B.named)
  cases Option.some.inj (h1.symm.trans B.method)
  cases Option.some.inj (h2.symm.trans (Stand.of_body B).code)
  rw [← h6, table_eq]
end Bodies
end VXA
/-! ===== END ===== -/
/-! ===== BEGIN a static call of a method with an exception table ===== -/
section VXS
variable {p : Program} {l : Launch} {e : Env} {R : Room} {s : State} {m : MethodId} {args : Array Value} {below : List Frame} {meth : Method} {c : Code} {T : State} {H : Heap} {locs : List Loc} {cells slots : Nat}
abbrev vx_CSW (R : Room) (s : State) (args : Array Value) (own : String) (index : Nat) (y : MethodName) (bytes : ByteArray) (maxL : Nat) (ret : Option FieldType) (hh : List (Nat × Nat × Nat × Nat)) (ws : List Cond) (rm : Room) (mc ms n : Nat) : Prop :=
  (rm.cells = mc ∧ rm.slots = ms ∧ rm.frames + 1 ≤ R.frames ∧ 8 + (maxL + 11) + rm.locals ≤ R.locals ∧ (∀ w ∈ ws, ∀ (a' : Array Value) (U : State), s.WarmedH U.vm → w.before a' U = true) ∧ Cond.codeWith y bytes maxL ret hh ∈ ws) ∧
  (Cond.codeWith y bytes maxL ret hh).before args s = true ∧ (Cond.initialized y.cls).before args s = true ∧ (y.cls ≠ "java/lang/invoke/MethodHandle" ∧ y.cls ≠ "java/lang/invoke/VarHandle") ∧
  (∀ sig, parseMethodDescriptor y.desc = some sig → n = sig.parameters.length) ∧ (Cond.methodLink own index y).before args s = true ∧ (Cond.static y).before args s = true
theorem vx_cwSW {own : String} {index maxL mc ms : Nat} {y : MethodName} {bytes : ByteArray} {ret : Option FieldType} {hh : List (Nat × Nat × Nat × Nat)} {Ts ws ws' : List Cond} {rm : Room} (n : Nat) (ht : ∀ w ∈ Ts, w.before args s = true) (hT : GoodIn Ts (va_wsS own index y ws)) (hw : ws = Cond.codeWith y bytes maxL ret hh :: ws') (hrc : rm.cells = mc) (hrs : rm.slots = ms)
    (hd : y.cls ≠ "java/lang/invoke/MethodHandle" ∧ y.cls ≠ "java/lang/invoke/VarHandle" ∧ (parseMethodDescriptor y.desc).map (fun d => d.parameters.length) = some n) (hR : rm.frames + 1 ≤ R.frames ∧ 8 + (maxL + 11) + rm.locals ≤ R.locals) :
    vx_CSW R s args own index y bytes maxL ret hh ws rm mc ms n := by
  have ok : ∀ w ∈ va_wsS own index y ws, w.before args s = true := fun w h => ht w (hT w h).1
  have hG : GoodIn Ts ws := fun w h => hT w (by unfold va_wsS; exact List.mem_append_right _ h)
  have hc : Cond.codeWith y bytes maxL ret hh ∈ ws := by rw [hw]; exact List.mem_cons_self
  refine ⟨⟨hrc, hrs, hR.1, hR.2, pay_in ht hG, hc⟩, ht _ (hG _ hc).1, ok _ (by simp [va_wsS]), ⟨hd.1, hd.2.1⟩, fun sig h => ?_, ok _ (by simp [va_wsS]), ok _ (by simp [va_wsS])⟩
  have h2 := hd.2.2
  rw [h] at h2
  exact (Option.some.inj h2).symm
theorem vx_callSW (X : Stand p l e R s m args below meth c T locs cells slots) (hexec : p.tables.exec = Jvm.exec) {own : String} {index : Nat} {y : MethodName} {bytes : ByteArray} {maxL : Nat} {ret : Option FieldType} {hh : List (Nat × Nat × Nat × Nat)}
    (hown : s.vm.findClass own = some m.cls) (hlink : (Cond.methodLink own index y).before args s = true) (hstat : (Cond.static y).before args s = true) (hinit : (Cond.initialized y.cls).before args s = true)
    (hcode : (Cond.codeWith y bytes maxL ret hh).before args s = true) (hy : y.cls ≠ "java/lang/invoke/MethodHandle" ∧ y.cls ≠ "java/lang/invoke/VarHandle")
    {W9 : Nat} {Pre : Pt → Array Value → Prop} {Post : Pt → Array Value → Option Value → Pt → Prop} (hK : Back l R p e below s args y 3 W9 Pre Post)
    {g : JFrame} (hg : g.method = m) (hsize : g.locals.size = c.maxLocals) {argsL rest : List Value} (hlen : ∀ sig, parseMethodDescriptor y.desc = some sig → argsL.length = sig.parameters.length)
    (hstack : g.stack = argsL.reverse ++ rest) (hW : 2 * g.monitorRoom + (rest.map fun v => v.category).sum ≤ W9) (hdg : decode c.code g.pc = .ok (.invokestatic index, 3))
    (hpre : ∀ vm₁, s.WarmedH vm₁ → Pre ⟨T.setVm vm₁, locs, cells, slots⟩ argsL.toArray) :
    ∃ (v : Option Value) (vm₁ : Vm) (B : Pt), s.WarmedH vm₁ ∧ Stand p l e R s m args below meth c B.U B.locs B.cells B.slots ∧ Post ⟨T.setVm vm₁, locs, cells, slots⟩ argsL.toArray v B ∧
      ∀ target, Steps p.tables e below (B.U.setTop { g with pc := g.pc + 3, stack := v.toList ++ rest }) target → Steps p.tables e below (T.setTop g) target := by
  obtain ⟨mk, methM, cM, hnamed, hmethM, -, -, -, -, -, -, hsigM⟩ := Cond.codeWith_spec hcode
  have hstatic : methM.isStatic = true := Cond.static_spec hnamed hmethM hstat
  obtain ⟨kP, hkP, -⟩ := className_of_methodNamed hnamed
  have hinitP : kP.init = .initialized := Cond.initialized_spec (findClass_of_methodNamed hnamed) hkP hinit
  obtain ⟨vm₁, X₁, hstep₁⟩ := X.invokestatic hexec hown hlink hnamed hmethM hstatic hkP hinitP hy (g := g) hg (argsL := argsL) (rest := rest) (hlen _ hsigM) hstack hdg
  obtain ⟨v, B, X', hpost, hsteps⟩ := hK m meth c ⟨T.setVm vm₁, locs, cells, slots⟩ { g with stack := rest } (.invokestatic index) mk argsL.toArray X₁ hg hsize hdg hW (X₁.named hnamed) (hpre vm₁ X₁.warmed)
  exact ⟨v, vm₁, B, X₁.warmed, X', hpost, fun target h => hstep₁ _ fun acts => by rw [doInvoke_state]; exact hsteps.trans h⟩
theorem vx_runSW {y : MethodName} {bytes cc : ByteArray} {maxL nL mc ms n index : Nat} {ret : Option FieldType} {hh : List (Nat × Nat × Nat × Nat)} {ws : List Cond} {rm : Room} {Pc : Array Value → State → Prop} {Qc : Array Value → State → Outcome → State → Prop} {free : Addr → Prop} {Ts : List Cond} {own : String} {As rest : List Value} {g : JFrame}
    (S : CallFix p m c cc nL s args Ts own) (hM : Met l y ws rm Pc Qc mc ms free) (cw : vx_CSW R s args own index y bytes maxL ret hh ws rm mc ms n) (hp : PreS s H Pc As)
    (hg : g.method = m) (hn : As.length = n) (hsize : g.locals.size = nL) (hstack : g.stack = As.reverse ++ rest) (hW : 2 * g.monitorRoom + (rest.map fun v => v.category).sum ≤ 8) (hdg : decode cc g.pc = .ok (.invokestatic index, 3)) (hf : cells + mc ≤ R.cells ∧ slots + ms ≤ R.slots) :
    va_Run p l e R s m args below meth c H locs cells slots mc ms g rest (Qc As.toArray) (free) := by
  obtain ⟨⟨hrc, hrs, hfr, hlo, hws, hcw⟩, hcode, hini, hy, hlen, hl, hstt⟩ := cw
  have hK : Back l R p e below s args y 3 8 (PreOf R mc ms Pc) (PostOf Qc mc ms free) := va_backW (hh := hh) (bytes := bytes) (maxL := maxL) (ret := ret) hM hp.1 hrc hrs hfr hlo hws hcw (fun a' U hW => word_at hW (Or.inl (by first | rfl | simp [Cond.onTables, Cond.keeps, Cond.steady])) hini)
  obtain ⟨hx, hb, hml, ho, -⟩ := S
  intro T hT X
  obtain ⟨v, vm₁, ⟨U', l2, c2, s2⟩, hW₁, X', ⟨g', mk, t, L, e1, e2, hq, h1, hL, h2, h3⟩, st⟩ := vx_callSW X hx (hh := hh) (bytes := bytes) (maxL := maxL) (ret := ret) ho hl hstt hini hcode hy hK hg (hsize.trans hml.symm) (argsL := As) (rest := rest) (fun sig h => hn.trans (hlen sig h)) hstack hW (by rw [hb]; exact hdg)
    (fun vm₁ hW₁ => ⟨hf.1, hf.2, hp.2 (T.setVm vm₁) hT hW₁⟩)
  dsimp only [Pt.U, Pt.locs, Pt.cells, Pt.slots] at X' e1 e2 h1 h2 h3 st
  subst h1; subst h2; subst h3
  exact ⟨v, (T.setVm vm₁).calling g' mk As.toArray, t, U', L, hT, X', hL, e1, e2, hq, st⟩
/-- not caught here, past rows that name other classes: it goes on to the caller -/
theorem vx_outP {p : Program} {l : Launch} {e : Env} {R : Room} {s : State} {m : MethodId} {args : Array Value} {below : List Frame} {meth : Method} {c : Code} {H : Heap} {locs : List Loc} {cells slots : Nat} {free : Addr → Prop} {ls : Array Slot} {rest : List Value} {Qc : Array Value → State → Outcome → State → Prop} {XC : String → State → State → Prop}
    {pc : Nat} {own E : String} {ce : Cell} {q : Addr} {mc ms : Nat} (hown : s.vm.findClass own = some m.cls) (hlocks : meth.locks = false)
    (hpass : ∀ z ∈ c.exceptionTable.toList, covers z pc = false ∨ (z.catchType ≠ 0 ∧ ∃ nm : String, (Cond.classLink own z.catchType nm).before args s = true ∧ va_Nc E nm s)) (hcell : H[q]? = some ce) (hv : ce.vm = .none) (hcl : s.vm.findClass E = some ce.cls)
    (hx : ∀ t : State, t.heap = H → s.vm.Alike t.vm → XC E s t) (hf : ∀ z ∈ locs, free z.base) (hc : cells ≤ mc) (hs : slots ≤ ms) :
    vx_W p l e R s m args below meth c H locs cells slots (vx_MQ below Qc XC args s mc ms free) (F0 m pc ls rest) q := by
  intro T hT X
  have hpl : e.platform.magicAccessors = ({} : Platform).magicAccessors := by rw [X.admits.platform]
  obtain ⟨vm', hW', X', st⟩ := X.outThrough hlocks q (g := F0 m pc ls rest) rfl rfl rfl (cell := ce) (by rw [hT]; exact hcell) (by rw [hv]; rfl)
    (by obtain ⟨k9, h9, -⟩ := Vm.findClass_spec hcl; exact ⟨k9, h9⟩) (fun z hz => by
      rcases hpass z hz with h | ⟨hz0, nm, hl1, hn1⟩
      · exact Or.inl h
      · obtain ⟨c6, hc6, hcl6⟩ := Cond.classLink_spec hown hl1 e.platform hpl
        obtain ⟨a8, b8, h1, h2, h3⟩ := hn1
        cases Option.some.inj (h1.symm.trans hcl)
        cases Option.some.inj (h2.symm.trans hc6)
        exact Or.inr ⟨hz0, _, hcl6, h3⟩)
  obtain ⟨g₀, hfr⟩ := X'.frames_eq
  have hcell9 : ((T.setVm vm').setFrames (.throwing q :: below)).heap[q]? = some ce := by
    show T.heap[q]? = some ce
    rw [hT]; exact hcell
  have hend : Ended ((T.setVm vm').setFrames (.throwing q :: below)) below (.threw q) := State.frames_setFrames _ (State.cur_lt_of_frames hfr)
  refine ⟨(T.setVm vm').setFrames (.throwing q :: below), ?_, .threw q, X'.here.running, hend, Or.inr ⟨q, rfl, E, ce, locs, hx _ hT (X'.ends _).1.alike, hcell9, hv, hcl, (X'.ends _).1, (X'.ends _).2.mono hc hs, hf⟩⟩
  rw [X.pushThrowing_eq]
  exact st
/-- a thing of a world lies in the heap -/
theorem vx_lt {D : va_G} {cl : List vw_C} {ws : va_W} {H1 : Heap} (h : va_P D cl ws H1) {k : Nat} {q : Nat × va_E} (hk : ws[k]? = some q) : q.1 < H1.size := (h k q hk).lt
end VXS
/-! ===== END ===== -/
/-! ===== BEGIN methods with a table of their own: called by a name, returning or throwing ===== -/
section VXH
/-! vx_backW, vx_callVX, vx_callSX, vx_callVW, vx_runVW, vx_runVX, vx_runSX, vx_ofWH follow the same proofs as their sisters above (Free/Laws.lean, Shelf42/LK1.lean); vx_outP calls Shelf42/NT130.lean (outThrough). -/
section
variable {l : Launch} {R : Room} {p : Program} {e : Env} {below : List Frame} {s : State} {sargs : Array Value} {y : MethodName} {len W9 : Nat}
theorem vx_backW {ws : List Cond} {rm : Room} {Pc : Array Value → State → Prop} {Qc : Array Value → State → Outcome → State → Prop} {XC : String → State → State → Prop} {mc ms : Nat} {free : Addr → Prop} {bytes : ByteArray} {maxL : Nat} {ret : Option FieldType} {hh : List (Nat × Nat × Nat × Nat)}
    (hM : vx_Met l y ws rm Pc Qc XC mc ms free) (hblind : FrameBlind Pc) (hrc : rm.cells = mc) (hrs : rm.slots = ms)
    (hframes : rm.frames + 1 ≤ R.frames) (hlocals : W9 + (maxL + 11) + rm.locals ≤ R.locals)
    (hws : ∀ w ∈ ws, ∀ a' U, s.WarmedH U.vm → w.before a' U = true) (hcode : Cond.codeWith y bytes maxL ret hh ∈ ws) (hinit : ∀ a' U, s.WarmedH U.vm → (Cond.initialized y.cls).before a' U = true) :
    vx_Back l R p e below s sargs y len W9 (PreOf R mc ms Pc) (PostOf Qc mc ms free) (vx_Post XC mc ms free) := by
  intro m meth c A g ig mk a X hg hsize hdg hW hn hp
  have h1 : (headSpec ws rm).pre.before a A.U = true := atoms_intro fun w hw => hws w hw _ _ X.warmed
  have h2 : (Cond.codeWith y bytes maxL ret hh).before a A.U = true := hws _ hcode _ _ X.warmed
  have h3 : (Cond.initialized y.cls).before a A.U = true := hinit _ _ X.warmed
  have h4 : A.cells + (headSpec ws rm).room.cells ≤ R.cells := by rw [show (headSpec ws rm).room.cells = mc from hrc]; exact hp.1
  have h5 : A.slots + (headSpec ws rm).room.slots ≤ R.slots := by rw [show (headSpec ws rm).room.slots = ms from hrs]; exact hp.2.1
  have hPc : Pc a (A.U.calling g mk a) := hblind _ _ _ _ hp.2.2
  obtain ⟨U, Ls, c0, s0⟩ := A
  dsimp only [Pt.U, Pt.locs, Pt.cells, Pt.slots] at h1 h2 h3 h4 h5 X hn hPc ⊢
  obtain ⟨m9, methY, cY, hn9, hmY, hcY, -, hlY, -⟩ := Cond.codeWith_spec h2
  cases Option.some.inj (hn9.symm.trans hn)
  obtain ⟨kY, hkY, -⟩ := className_of_methodNamed hn
  have hinitY : kY.init = .initialized := Cond.initialized_spec (findClass_of_methodNamed hn) hkY h3
  have h : At U g.method c below := by rw [hg]; exact X.here
  have hlocals9 : W9 + (maxL + 11) + (headSpec ws rm).room.locals ≤ R.locals := hlocals
  have happ : (headSpec ws rm).appliesLoose y e.platform (U.calling g mk a) = true :=
    Spec.appliesLoose_calling (g := g) h hdg hn hkY hinitY
      (X.room_calling (g := g) (R' := (headSpec ws rm).room) hsize hmY hcY hframes (by rw [hlY]; omega) h4 h5) h1
  obtain ⟨mid, hmid⟩ := h.above
  have hfr : (U.setTop g).frames = (.java g :: mid) ++ below := by rw [State.frames_setTop' g h.top, hmid]; rfl
  obtain ⟨o, s₂, hsteps, -, hend, hq⟩ := Steps.callFree hM p X.admits X.cas X.clock (acts := []) hfr happ hPc trivial
  have hq' : vx_Q Qc XC mc ms free a (U.calling g mk a) o s₂ := hq
  rw [State.frames_setTop' g h.top] at hend
  obtain ⟨g₀, hg0⟩ := Option.isSome_iff_exists.mp h.top
  obtain ⟨r, hr⟩ := State.topJava?_eq_some.mp hg0
  have hr' : (({ U with heap := s₂.heap, slotsUsed := s₂.slotsUsed } : State).setVm s₂.vm).frames = .java g₀ :: r := hr
  rcases hq' with ⟨hqc, L, hfe, hL⟩ | ⟨q, rfl, E, ce, L, hx, hce, hcv, hcl, hW₂, hsm, hL⟩
  · obtain ⟨⟨v, rfl⟩, hW₂, e2, q2, q3, q4, q5, q6⟩ := id hfe
    have e3 : s₂ = ({ (U.calling g mk a).setFrames s₂.frames with heap := s₂.heap, slotsUsed := s₂.slotsUsed } : State).setVm s₂.vm := by
      have : s₂ = ({ s₂ with vm := (U.calling g mk a).vm } : State).setVm s₂.vm := rfl
      rw [e2] at this
      exact this
    obtain ⟨c₂, i₂, len₂, hc₂, hd₂, hf₂⟩ := hend
    have hW' : U.WarmedH s₂.vm := hW₂
    have hcc : c₂ = c := by
      have h1 : s₂.code? g.method = U.code? g.method := by
        rw [State.code?_eq, State.code?_eq, hW'.alike.method?]
      exact Option.some.inj (hc₂.symm.trans (h1.trans h.code))
    subst hcc
    have hlen : len₂ = len := by rw [hdg] at hd₂; cases hd₂; rfl
    subst hlen
    have hs₂ : s₂ = (({ U with heap := s₂.heap, slotsUsed := s₂.slotsUsed } : State).setVm s₂.vm).setTop { g with pc := g.pc + len₂, stack := v.toList ++ g.stack } := by
      refine e3.trans ?_
      rw [hf₂, State.calling_eq h.top, State.setFrames_setFrames, State.setTop_of_frames _ hr', hr]
      rfl
    have hsame : U.sameButNew ({ U with heap := s₂.heap, slotsUsed := s₂.slotsUsed } : State) L mc ms := by
      refine ⟨?_, q2, q3, q4, q5, q6⟩
      obtain ⟨t, ht, -⟩ := State.frames_cons hr
      show ({ U with heap := s₂.heap, slotsUsed := s₂.slotsUsed } : State) = { U.setFrames U.frames with heap := s₂.heap, slotsUsed := s₂.slotsUsed }
      rw [State.setFrames_self ht]
    subst hg
    refine Or.inl ⟨v, ⟨(({ U with heap := s₂.heap, slotsUsed := s₂.slotsUsed } : State).setVm s₂.vm), Ls ++ L, c0 + mc, s0 + ms⟩,
      ⟨X.admits, X.cas, X.clock, X.frames, X.room, X.hears, X.method, X.code, (X.here.setHeapUsed s₂.heap s₂.slotsUsed).setVm hW'.alike, X.tail, State.WarmedH.trans X.warmed hW', X.limits, X.bytes, X.same.trans (hsame.setVm s.vm)⟩,
      ⟨g, mk, s₂, L, rfl, rfl, hqc, rfl, hL, rfl, rfl⟩, ?_⟩
    show Steps p.tables e below _ ((({ U with heap := s₂.heap, slotsUsed := s₂.slotsUsed } : State).setVm s₂.vm).setTop { g with pc := g.pc + len₂, stack := v.toList ++ g.stack })
    rw [← hs₂]
    exact hsteps
  · obtain ⟨e2, q2, q3, q4, q5, q6⟩ := id hsm
    have e3 : s₂ = ({ (U.calling g mk a).setFrames s₂.frames with heap := s₂.heap, slotsUsed := s₂.slotsUsed } : State).setVm s₂.vm := by
      have : s₂ = ({ s₂ with vm := (U.calling g mk a).vm } : State).setVm s₂.vm := rfl
      rw [e2] at this
      exact this
    have hf₂ : s₂.frames = .throwing q :: .java g :: U.frames.tail := hend
    have hW' : U.WarmedH s₂.vm := hW₂
    have hs₂ : s₂ = ((({ U with heap := s₂.heap, slotsUsed := s₂.slotsUsed } : State).setVm s₂.vm).setTop g).pushFrame (.throwing q) := by
      refine e3.trans ?_
      rw [hf₂, State.calling_eq h.top, State.setFrames_setFrames, State.pushFrame, State.frames_setTop _ hr', State.setTop_of_frames _ hr', State.setFrames_setFrames, hr]
      rfl
    have hsame : U.sameButNew ({ U with heap := s₂.heap, slotsUsed := s₂.slotsUsed } : State) L mc ms := by
      refine ⟨?_, q2, q3, q4, q5, q6⟩
      obtain ⟨t, ht, -⟩ := State.frames_cons hr
      show ({ U with heap := s₂.heap, slotsUsed := s₂.slotsUsed } : State) = { U.setFrames U.frames with heap := s₂.heap, slotsUsed := s₂.slotsUsed }
      rw [State.setFrames_self ht]
    subst hg
    refine Or.inr ⟨q, ⟨(({ U with heap := s₂.heap, slotsUsed := s₂.slotsUsed } : State).setVm s₂.vm), Ls ++ L, c0 + mc, s0 + ms⟩,
      ⟨X.admits, X.cas, X.clock, X.frames, X.room, X.hears, X.method, X.code, (X.here.setHeapUsed s₂.heap s₂.slotsUsed).setVm hW'.alike, X.tail, State.WarmedH.trans X.warmed hW', X.limits, X.bytes, X.same.trans (hsame.setVm s.vm)⟩,
      ⟨g, mk, s₂, L, E, ce, rfl, rfl, hx, hce, hcv, hcl, rfl, hL, rfl, rfl⟩, ?_⟩
    show Steps p.tables e below _ (((({ U with heap := s₂.heap, slotsUsed := s₂.slotsUsed } : State).setVm s₂.vm).setTop g).pushFrame (.throwing q))
    rw [← hs₂]
    exact hsteps
end
variable {p : Program} {l : Launch} {e : Env} {R : Room} {s : State} {m : MethodId} {args : Array Value} {below : List Frame} {meth : Method} {c : Code} {T : State} {H : Heap} {locs : List Loc} {cells slots : Nat}
theorem vx_callVX (X : Stand p l e R s m args below meth c T locs cells slots) (hexec : p.tables.exec = Jvm.exec) {own C : String} {index : Nat} {y : MethodName} {bytes : ByteArray} {maxL : Nat} {ret : Option FieldType} {hh : List (Nat × Nat × Nat × Nat)}
    (hown : s.vm.findClass own = some m.cls) (hlink : (Cond.methodLink own index y).before args s = true) (hinst : (Cond.instanceMethod y).before args s = true) (hsel : (Cond.selects C y y).before args s = true)
    (hcode : (Cond.codeWith y bytes maxL ret hh).before args s = true) (hy : y.cls ≠ "java/lang/invoke/MethodHandle" ∧ y.cls ≠ "java/lang/invoke/VarHandle")
    {W9 : Nat} {Pre : Pt → Array Value → Prop} {Post : Pt → Array Value → Option Value → Pt → Prop} {PostX : Pt → Array Value → Addr → Pt → Prop} (hK : vx_Back l R p e below s args y 3 W9 Pre Post PostX)
    {b : Addr} {cellB : Cell} (hcell : T.heap[b]? = some cellB) (hobj : cellB.vm.isStatics = false) (hcls : s.vm.findClass C = some cellB.cls)
    {g : JFrame} (hg : g.method = m) (hsize : g.locals.size = c.maxLocals) {argsL rest : List Value} (hlen : ∀ sig, parseMethodDescriptor y.desc = some sig → argsL.length = sig.parameters.length)
    (hstack : g.stack = argsL.reverse ++ .ref b :: rest) (hW : 2 * g.monitorRoom + (rest.map fun v => v.category).sum ≤ W9) (hdg : decode c.code g.pc = .ok (.invokevirtual index, 3))
    (hpre : ∀ vm₁, s.WarmedH vm₁ → Pre ⟨T.setVm vm₁, locs, cells, slots⟩ (Value.ref b :: argsL).toArray) :
    (∃ (v : Option Value) (vm₁ : Vm) (B : Pt), s.WarmedH vm₁ ∧ Stand p l e R s m args below meth c B.U B.locs B.cells B.slots ∧ Post ⟨T.setVm vm₁, locs, cells, slots⟩ (Value.ref b :: argsL).toArray v B ∧
      ∀ target, Steps p.tables e below (B.U.setTop { g with pc := g.pc + 3, stack := v.toList ++ rest }) target → Steps p.tables e below (T.setTop g) target) ∨
    (∃ (q : Addr) (vm₁ : Vm) (B : Pt), s.WarmedH vm₁ ∧ Stand p l e R s m args below meth c B.U B.locs B.cells B.slots ∧ PostX ⟨T.setVm vm₁, locs, cells, slots⟩ (Value.ref b :: argsL).toArray q B ∧
      Steps p.tables e below (T.setTop g) ((B.U.setTop { g with stack := rest }).pushFrame (.throwing q))) := by
  obtain ⟨mk, methM, hnamed, hmethM, hstM, habM⟩ := Cond.instanceMethod_spec hinst
  obtain ⟨m8, methM', cM, hn8, hmethM', -, -, -, -, -, -, hsigM⟩ := Cond.codeWith_spec hcode
  cases Option.some.inj (hn8.symm.trans hnamed)
  cases hmethM.symm.trans hmethM'
  obtain ⟨c2, r2, m2, q1, q2, q3, q4, kP, hkP, hkPi⟩ := Cond.selects_spec hsel
  cases hcls.symm.trans q1
  cases (State.methodFound?_of_named hnamed hy).symm.trans q2
  cases hnamed.symm.trans q3
  have hselP : selectMethod e.platform s.vm cellB.cls mk = .method mk := by rw [Launch.admits_selectMethod X.admits]; exact q4
  obtain ⟨vm₁, X₁, hstep₁⟩ := X.invokevirtual hexec hown hlink hnamed hmethM hstM hkP hkPi hy (a := b) (cell := cellB) hcell
    (fun z h => by rw [h] at hobj; cases hobj) hselP hmethM habM hkP hkPi (g := g) hg (argsL := argsL) (rest := rest) (hlen _ hsigM) hstack hdg
  rcases hK m meth c ⟨T.setVm vm₁, locs, cells, slots⟩ { g with stack := rest } (.invokevirtual index) mk (Value.ref b :: argsL).toArray X₁ hg hsize hdg hW (X₁.named hnamed) (hpre vm₁ X₁.warmed) with ⟨v, B, X', hpost, hsteps⟩ | ⟨q, B, X', hpost, hsteps⟩
  · exact Or.inl ⟨v, vm₁, B, X₁.warmed, X', hpost, fun target h => hstep₁ _ fun acts => by rw [doInvoke_state]; exact hsteps.trans h⟩
  · exact Or.inr ⟨q, vm₁, B, X₁.warmed, X', hpost, hstep₁ _ fun acts => by rw [doInvoke_state]; exact hsteps⟩
theorem vx_callSX (X : Stand p l e R s m args below meth c T locs cells slots) (hexec : p.tables.exec = Jvm.exec) {own : String} {index : Nat} {y : MethodName} {bytes : ByteArray} {maxL : Nat} {ret : Option FieldType} {hh : List (Nat × Nat × Nat × Nat)}
    (hown : s.vm.findClass own = some m.cls) (hlink : (Cond.methodLink own index y).before args s = true) (hstat : (Cond.static y).before args s = true) (hinit : (Cond.initialized y.cls).before args s = true)
    (hcode : (Cond.codeWith y bytes maxL ret hh).before args s = true) (hy : y.cls ≠ "java/lang/invoke/MethodHandle" ∧ y.cls ≠ "java/lang/invoke/VarHandle")
    {W9 : Nat} {Pre : Pt → Array Value → Prop} {Post : Pt → Array Value → Option Value → Pt → Prop} {PostX : Pt → Array Value → Addr → Pt → Prop} (hK : vx_Back l R p e below s args y 3 W9 Pre Post PostX)
    {g : JFrame} (hg : g.method = m) (hsize : g.locals.size = c.maxLocals) {argsL rest : List Value} (hlen : ∀ sig, parseMethodDescriptor y.desc = some sig → argsL.length = sig.parameters.length)
    (hstack : g.stack = argsL.reverse ++ rest) (hW : 2 * g.monitorRoom + (rest.map fun v => v.category).sum ≤ W9) (hdg : decode c.code g.pc = .ok (.invokestatic index, 3))
    (hpre : ∀ vm₁, s.WarmedH vm₁ → Pre ⟨T.setVm vm₁, locs, cells, slots⟩ argsL.toArray) :
    (∃ (v : Option Value) (vm₁ : Vm) (B : Pt), s.WarmedH vm₁ ∧ Stand p l e R s m args below meth c B.U B.locs B.cells B.slots ∧ Post ⟨T.setVm vm₁, locs, cells, slots⟩ argsL.toArray v B ∧
      ∀ target, Steps p.tables e below (B.U.setTop { g with pc := g.pc + 3, stack := v.toList ++ rest }) target → Steps p.tables e below (T.setTop g) target) ∨
    (∃ (q : Addr) (vm₁ : Vm) (B : Pt), s.WarmedH vm₁ ∧ Stand p l e R s m args below meth c B.U B.locs B.cells B.slots ∧ PostX ⟨T.setVm vm₁, locs, cells, slots⟩ argsL.toArray q B ∧
      Steps p.tables e below (T.setTop g) ((B.U.setTop { g with stack := rest }).pushFrame (.throwing q))) := by
  obtain ⟨mk, methM, cM, hnamed, hmethM, -, -, -, -, -, -, hsigM⟩ := Cond.codeWith_spec hcode
  have hstatic : methM.isStatic = true := Cond.static_spec hnamed hmethM hstat
  obtain ⟨kP, hkP, -⟩ := className_of_methodNamed hnamed
  have hinitP : kP.init = .initialized := Cond.initialized_spec (findClass_of_methodNamed hnamed) hkP hinit
  obtain ⟨vm₁, X₁, hstep₁⟩ := X.invokestatic hexec hown hlink hnamed hmethM hstatic hkP hinitP hy (g := g) hg (argsL := argsL) (rest := rest) (hlen _ hsigM) hstack hdg
  rcases hK m meth c ⟨T.setVm vm₁, locs, cells, slots⟩ { g with stack := rest } (.invokestatic index) mk argsL.toArray X₁ hg hsize hdg hW (X₁.named hnamed) (hpre vm₁ X₁.warmed) with ⟨v, B, X', hpost, hsteps⟩ | ⟨q, B, X', hpost, hsteps⟩
  · exact Or.inl ⟨v, vm₁, B, X₁.warmed, X', hpost, fun target h => hstep₁ _ fun acts => by rw [doInvoke_state]; exact hsteps.trans h⟩
  · exact Or.inr ⟨q, vm₁, B, X₁.warmed, X', hpost, hstep₁ _ fun acts => by rw [doInvoke_state]; exact hsteps⟩
theorem vx_callVW (X : Stand p l e R s m args below meth c T locs cells slots) (hexec : p.tables.exec = Jvm.exec) {own C : String} {index : Nat} {y : MethodName} {bytes : ByteArray} {maxL : Nat} {ret : Option FieldType} {hh : List (Nat × Nat × Nat × Nat)}
    (hown : s.vm.findClass own = some m.cls) (hlink : (Cond.methodLink own index y).before args s = true) (hinst : (Cond.instanceMethod y).before args s = true) (hsel : (Cond.selects C y y).before args s = true)
    (hcode : (Cond.codeWith y bytes maxL ret hh).before args s = true) (hy : y.cls ≠ "java/lang/invoke/MethodHandle" ∧ y.cls ≠ "java/lang/invoke/VarHandle")
    {W9 : Nat} {Pre : Pt → Array Value → Prop} {Post : Pt → Array Value → Option Value → Pt → Prop} (hK : Back l R p e below s args y 3 W9 Pre Post)
    {b : Addr} {cellB : Cell} (hcell : T.heap[b]? = some cellB) (hobj : cellB.vm.isStatics = false) (hcls : s.vm.findClass C = some cellB.cls)
    {g : JFrame} (hg : g.method = m) (hsize : g.locals.size = c.maxLocals) {argsL rest : List Value} (hlen : ∀ sig, parseMethodDescriptor y.desc = some sig → argsL.length = sig.parameters.length)
    (hstack : g.stack = argsL.reverse ++ .ref b :: rest) (hW : 2 * g.monitorRoom + (rest.map fun v => v.category).sum ≤ W9) (hdg : decode c.code g.pc = .ok (.invokevirtual index, 3))
    (hpre : ∀ vm₁, s.WarmedH vm₁ → Pre ⟨T.setVm vm₁, locs, cells, slots⟩ (Value.ref b :: argsL).toArray) :
    ∃ (v : Option Value) (vm₁ : Vm) (B : Pt), s.WarmedH vm₁ ∧ Stand p l e R s m args below meth c B.U B.locs B.cells B.slots ∧ Post ⟨T.setVm vm₁, locs, cells, slots⟩ (Value.ref b :: argsL).toArray v B ∧
      ∀ target, Steps p.tables e below (B.U.setTop { g with pc := g.pc + 3, stack := v.toList ++ rest }) target → Steps p.tables e below (T.setTop g) target := by
  obtain ⟨mk, methM, hnamed, hmethM, hstM, habM⟩ := Cond.instanceMethod_spec hinst
  obtain ⟨m8, methM', cM, hn8, hmethM', -, -, -, -, -, -, hsigM⟩ := Cond.codeWith_spec hcode
  cases Option.some.inj (hn8.symm.trans hnamed)
  cases hmethM.symm.trans hmethM'
  obtain ⟨c2, r2, m2, q1, q2, q3, q4, kP, hkP, hkPi⟩ := Cond.selects_spec hsel
  cases hcls.symm.trans q1
  cases (State.methodFound?_of_named hnamed hy).symm.trans q2
  cases hnamed.symm.trans q3
  have hselP : selectMethod e.platform s.vm cellB.cls mk = .method mk := by rw [Launch.admits_selectMethod X.admits]; exact q4
  obtain ⟨vm₁, X₁, hstep₁⟩ := X.invokevirtual hexec hown hlink hnamed hmethM hstM hkP hkPi hy (a := b) (cell := cellB) hcell
    (fun z h => by rw [h] at hobj; cases hobj) hselP hmethM habM hkP hkPi (g := g) hg (argsL := argsL) (rest := rest) (hlen _ hsigM) hstack hdg
  obtain ⟨v, B, X', hpost, hsteps⟩ := hK m meth c ⟨T.setVm vm₁, locs, cells, slots⟩ { g with stack := rest } (.invokevirtual index) mk (Value.ref b :: argsL).toArray X₁ hg hsize hdg hW (X₁.named hnamed) (hpre vm₁ X₁.warmed)
  exact ⟨v, vm₁, B, X₁.warmed, X', hpost, fun target h => hstep₁ _ fun acts => by rw [doInvoke_state]; exact hsteps.trans h⟩
abbrev vx_CVW (R : Room) (s : State) (args : Array Value) (own C : String) (index : Nat) (y : MethodName) (bytes : ByteArray) (maxL : Nat) (ret : Option FieldType) (hh : List (Nat × Nat × Nat × Nat)) (ws : List Cond) (rm : Room) (mc ms n : Nat) : Prop :=
  (rm.cells = mc ∧ rm.slots = ms ∧ rm.frames + 1 ≤ R.frames ∧ 8 + (maxL + 11) + rm.locals ≤ R.locals ∧ (∀ w ∈ ws, ∀ (a' : Array Value) (U : State), s.WarmedH U.vm → w.before a' U = true) ∧ Cond.codeWith y bytes maxL ret hh ∈ ws) ∧
  (Cond.codeWith y bytes maxL ret hh).before args s = true ∧ (Cond.initialized y.cls).before args s = true ∧ (y.cls ≠ "java/lang/invoke/MethodHandle" ∧ y.cls ≠ "java/lang/invoke/VarHandle") ∧
  (∀ sig, parseMethodDescriptor y.desc = some sig → n = sig.parameters.length) ∧ (Cond.methodLink own index y).before args s = true ∧ (Cond.instanceMethod y).before args s = true ∧ (Cond.selects C y y).before args s = true
theorem vx_cwVW {own C : String} {index maxL mc ms : Nat} {y : MethodName} {bytes : ByteArray} {ret : Option FieldType} {hh : List (Nat × Nat × Nat × Nat)} {Ts ws ws' : List Cond} {rm : Room} (n : Nat) (ht : ∀ w ∈ Ts, w.before args s = true) (hT : GoodIn Ts (wsV own index C y ws)) (hw : ws = Cond.codeWith y bytes maxL ret hh :: ws') (hrc : rm.cells = mc) (hrs : rm.slots = ms)
    (hd : y.cls = C ∧ y.cls ≠ "java/lang/invoke/MethodHandle" ∧ y.cls ≠ "java/lang/invoke/VarHandle" ∧ (parseMethodDescriptor y.desc).map (fun d => d.parameters.length) = some n) (hR : rm.frames + 1 ≤ R.frames ∧ 8 + (maxL + 11) + rm.locals ≤ R.locals) :
    vx_CVW R s args own C index y bytes maxL ret hh ws rm mc ms n := by
  obtain ⟨hC, hd⟩ := hd
  subst hC
  have ok : ∀ w ∈ wsV own index y.cls y ws, w.before args s = true := fun w h => ht w (hT w h).1
  have hG : GoodIn Ts ws := fun w h => hT w (by unfold wsV; exact List.mem_append_right _ h)
  have hc : Cond.codeWith y bytes maxL ret hh ∈ ws := by rw [hw]; exact List.mem_cons_self
  refine ⟨⟨hrc, hrs, hR.1, hR.2, pay_in ht hG, hc⟩, ht _ (hG _ hc).1, ok _ (by simp [wsV]), ⟨hd.1, hd.2.1⟩, fun sig h => ?_, ok _ (by simp [wsV]), ok _ (by simp [wsV]), ok _ (by simp [wsV])⟩
  have h2 := hd.2.2
  rw [h] at h2
  exact (Option.some.inj h2).symm
theorem vx_runVW {y : MethodName} {bytes cc : ByteArray} {maxL nL mc ms n index : Nat} {ret : Option FieldType} {hh : List (Nat × Nat × Nat × Nat)} {ws : List Cond} {rm : Room} {Pc : Array Value → State → Prop} {Qc : Array Value → State → Outcome → State → Prop} {free : Addr → Prop} {Ts : List Cond} {own C : String} {b : Addr} {As rest : List Value} {g : JFrame}
    (S : CallFix p m c cc nL s args Ts own) (hM : Met l y ws rm Pc Qc mc ms free) (cw : vx_CVW R s args own C index y bytes maxL ret hh ws rm mc ms n) (hp : PreV s H C b Pc As)
    (hg : g.method = m) (hn : As.length = n) (hsize : g.locals.size = nL) (hstack : g.stack = As.reverse ++ .ref b :: rest) (hW : 2 * g.monitorRoom + (rest.map fun v => v.category).sum ≤ 8) (hdg : decode cc g.pc = .ok (.invokevirtual index, 3)) (hf : cells + mc ≤ R.cells ∧ slots + ms ≤ R.slots) :
    va_Run p l e R s m args below meth c H locs cells slots mc ms g rest (Qc (Value.ref b :: As).toArray) free := by
  obtain ⟨⟨hrc, hrs, hfr, hlo, hws, hcw⟩, hcode, hini, hy, hlen, hl, hin, hse⟩ := cw
  have hK : Back l R p e below s args y 3 8 (PreOf R mc ms Pc) (PostOf Qc mc ms free) := va_backW (hh := hh) (bytes := bytes) (maxL := maxL) (ret := ret) hM hp.1 hrc hrs hfr hlo hws hcw (fun a' U hW => word_at hW (Or.inl (by first | rfl | simp [Cond.onTables, Cond.keeps, Cond.steady])) hini)
  obtain ⟨hx, hb, hml, ho, -⟩ := S
  obtain ⟨-, ⟨cellB, hcB, hoB, hclB⟩, hPc⟩ := hp
  intro T hT X
  obtain ⟨v, vm₁, ⟨U', l2, c2, s2⟩, hW₁, X', ⟨g', mk, t, L, e1, e2, hq, h1, hL, h2, h3⟩, st⟩ := vx_callVW X hx (C := C) (hh := hh) (bytes := bytes) (maxL := maxL) (ret := ret) ho hl hin hse hcode hy hK (by rw [hT]; exact hcB) hoB hclB hg (hsize.trans hml.symm) (argsL := As) (rest := rest) (fun sig h => hn.trans (hlen sig h)) hstack hW (by rw [hb]; exact hdg)
    (fun vm₁ hW₁ => ⟨hf.1, hf.2, hPc (T.setVm vm₁) hT hW₁⟩)
  dsimp only [Pt.U, Pt.locs, Pt.cells, Pt.slots] at X' e1 e2 h1 h2 h3 st
  subst h1; subst h2; subst h3
  exact ⟨v, (T.setVm vm₁).calling g' mk (Value.ref b :: As).toArray, t, U', L, hT, X', hL, e1, e2, hq, st⟩
section
variable {y : MethodName} {bytes cc : ByteArray} {maxL nL mc ms n index : Nat} {ret : Option FieldType} {ws : List Cond} {rm : Room} {Pc : Array Value → State → Prop} {Qc : Array Value → State → Outcome → State → Prop} {XC : String → State → State → Prop} {free : Addr → Prop} {Ts : List Cond} {own C : String} {b : Addr} {As rest : List Value} {g : JFrame}
theorem vx_runVX {hh : List (Nat × Nat × Nat × Nat)} (S : CallFix p m c cc nL s args Ts own) (hM : vx_Met l y ws rm Pc Qc XC mc ms free) (cw : vx_CVW R s args own C index y bytes maxL ret hh ws rm mc ms n) (hp : PreV s H C b Pc As)
    (hg : g.method = m) (hn : As.length = n) (hsize : g.locals.size = nL) (hstack : g.stack = As.reverse ++ .ref b :: rest) (hW : 2 * g.monitorRoom + (rest.map fun v => v.category).sum ≤ 8) (hdg : decode cc g.pc = .ok (.invokevirtual index, 3)) (hf : cells + mc ≤ R.cells ∧ slots + ms ≤ R.slots) :
    vx_Run p l e R s m args below meth c H locs cells slots mc ms g rest (Qc (Value.ref b :: As).toArray) XC free := by
  obtain ⟨⟨hrc, hrs, hfr, hlo, hws, hcw⟩, hcode, hini, hy, hlen, hl, hin, hse⟩ := cw
  have hK : vx_Back l R p e below s args y 3 8 (PreOf R mc ms Pc) (PostOf Qc mc ms free) (vx_Post XC mc ms free) := vx_backW (hh := hh) (bytes := bytes) (maxL := maxL) (ret := ret) hM hp.1 hrc hrs hfr hlo hws hcw (fun a' U hW => word_at hW (Or.inl (by first | rfl | simp [Cond.onTables, Cond.keeps, Cond.steady])) hini)
  obtain ⟨hx, hb, hml, ho, -⟩ := S
  obtain ⟨-, ⟨cellB, hcB, hoB, hclB⟩, hPc⟩ := hp
  intro T hT X
  rcases vx_callVX X hx (C := C) (hh := hh) (bytes := bytes) (maxL := maxL) (ret := ret) ho hl hin hse hcode hy hK (by rw [hT]; exact hcB) hoB hclB hg (hsize.trans hml.symm) (argsL := As) (rest := rest) (fun sig h => hn.trans (hlen sig h)) hstack hW (by rw [hb]; exact hdg)
    (fun vm₁ hW₁ => ⟨hf.1, hf.2, hPc (T.setVm vm₁) hT hW₁⟩) with ⟨v, vm₁, ⟨U', l2, c2, s2⟩, hW₁, X', ⟨g', mk, t, L, e1, e2, hq, h1, hL, h2, h3⟩, st⟩ | ⟨q, vm₁, ⟨U', l2, c2, s2⟩, hW₁, X', ⟨g', mk, t, L, E, ce, e1, e2, hq, hce, hcv, hcl, h1, hL, h2, h3⟩, st⟩
  · dsimp only [Pt.U, Pt.locs, Pt.cells, Pt.slots] at X' e1 e2 h1 h2 h3 st
    subst h1; subst h2; subst h3
    exact Or.inl ⟨v, (T.setVm vm₁).calling g' mk (Value.ref b :: As).toArray, t, U', L, hT, X', hL, e1, e2, hq, st⟩
  · dsimp only [Pt.U, Pt.locs, Pt.cells, Pt.slots] at X' e1 e2 h1 h2 h3 st hcl
    subst h1; subst h2; subst h3
    exact Or.inr ⟨q, (T.setVm vm₁).calling g' mk (Value.ref b :: As).toArray, t, U', L, E, ce, hT, X', hL, e1, e2, hq, hce, hcv, vx_cls hW₁ hcl, st⟩
theorem vx_runSX {hh : List (Nat × Nat × Nat × Nat)} (S : CallFix p m c cc nL s args Ts own) (hM : vx_Met l y ws rm Pc Qc XC mc ms free) (cw : vx_CSW R s args own index y bytes maxL ret hh ws rm mc ms n) (hp : PreS s H Pc As)
    (hg : g.method = m) (hn : As.length = n) (hsize : g.locals.size = nL) (hstack : g.stack = As.reverse ++ rest) (hW : 2 * g.monitorRoom + (rest.map fun v => v.category).sum ≤ 8) (hdg : decode cc g.pc = .ok (.invokestatic index, 3)) (hf : cells + mc ≤ R.cells ∧ slots + ms ≤ R.slots) :
    vx_Run p l e R s m args below meth c H locs cells slots mc ms g rest (Qc As.toArray) XC free := by
  obtain ⟨⟨hrc, hrs, hfr, hlo, hws, hcw⟩, hcode, hini, hy, hlen, hl, hstt⟩ := cw
  have hK : vx_Back l R p e below s args y 3 8 (PreOf R mc ms Pc) (PostOf Qc mc ms free) (vx_Post XC mc ms free) := vx_backW (hh := hh) (bytes := bytes) (maxL := maxL) (ret := ret) hM hp.1 hrc hrs hfr hlo hws hcw (fun a' U hW => word_at hW (Or.inl (by first | rfl | simp [Cond.onTables, Cond.keeps, Cond.steady])) hini)
  obtain ⟨hx, hb, hml, ho, -⟩ := S
  intro T hT X
  rcases vx_callSX X hx (hh := hh) (bytes := bytes) (maxL := maxL) (ret := ret) ho hl hstt hini hcode hy hK hg (hsize.trans hml.symm) (argsL := As) (rest := rest) (fun sig h => hn.trans (hlen sig h)) hstack hW (by rw [hb]; exact hdg)
    (fun vm₁ hW₁ => ⟨hf.1, hf.2, hp.2 (T.setVm vm₁) hT hW₁⟩) with ⟨v, vm₁, ⟨U', l2, c2, s2⟩, hW₁, X', ⟨g', mk, t, L, e1, e2, hq, h1, hL, h2, h3⟩, st⟩ | ⟨q, vm₁, ⟨U', l2, c2, s2⟩, hW₁, X', ⟨g', mk, t, L, E, ce, e1, e2, hq, hce, hcv, hcl, h1, hL, h2, h3⟩, st⟩
  · dsimp only [Pt.U, Pt.locs, Pt.cells, Pt.slots] at X' e1 e2 h1 h2 h3 st
    subst h1; subst h2; subst h3
    exact Or.inl ⟨v, (T.setVm vm₁).calling g' mk As.toArray, t, U', L, hT, X', hL, e1, e2, hq, st⟩
  · dsimp only [Pt.U, Pt.locs, Pt.cells, Pt.slots] at X' e1 e2 h1 h2 h3 st hcl
    subst h1; subst h2; subst h3
    exact Or.inr ⟨q, (T.setVm vm₁).calling g' mk As.toArray, t, U', L, E, ce, hT, X', hL, e1, e2, hq, hce, hcv, vx_cls hW₁ hcl, st⟩
end
end VXH
theorem vx_ofWH {l : Launch} {y : MethodName} {ws ws' : List Cond} {rm : Room} {Pc : Array Value → State → Prop} {Qc : Array Value → State → Outcome → State → Prop} {XC : String → State → State → Prop} {mc ms : Nat} {free : Addr → Prop} {cc : ByteArray} {maxL : Nat} {ret : Option FieldType} {hh : List (Nat × Nat × Nat × Nat)}
    (hy : plainName y.cls = true) (hw : ws = Cond.codeWith y cc maxL ret hh :: ws')
    (body : ∀ p e s m args below meth c s₁, BodyLoose p l y (headSpec ws rm) cc maxL ret e s m args below meth c s₁ → c.maxLocals = maxL → Pc args s →
      W p l e (headSpec ws rm).room s m args below meth c s.heap [] 0 0 (vx_MQ below Qc XC args s mc ms free) (entryFrame m args maxL)) : vx_Met l y ws rm Pc Qc XC mc ms free := by
  refine MetFree.of_bodyS (code := cc) (maxLocals := maxL) (ret := ret) hy ?_ ?_
  · intro args s m h hn
    obtain ⟨m9, meth, c, hn9, h1, h2, h3, h4, -, h5, h6, -⟩ := Cond.codeWith_spec (atoms_spec (ws := ws) h _ (by rw [hw]; exact List.mem_cons_self))
    cases hn.symm.trans hn9
    exact ⟨meth, c, h1, h2, h3, h4, h5, h6⟩
  · intro p e s m args below meth c s₁ B hml hP _
    have hh0 : s₁.heap = s.heap := by rw [B.state]; rfl
    obtain ⟨t, a1, o, b1, b2, b3⟩ := body p e s m args below meth c s₁ B hml hP s₁ hh0 (Stand.of_body B)
    exact ⟨t, o, a1, b1, b2, b3⟩
/-! ===== END ===== -/

def RX0 : String := "FingerPosts$Signs"
def TX0 : u_T := fun k => match k with
  | 0 => ("FingerPosts$Signs", "bit", "[I", true)
  | 1 => ("FingerPosts$Signs", "firstVillage", "[I", true)
  | 2 => ("FingerPosts$Signs", "names", "[I", true)
  | 3 => ("FingerPosts$Signs", "smallest", "[I", true)
  | 4 => ("FingerPosts$Signs", "greatest", "[I", true)
  | 5 => ("FingerPosts$Signs", "lowSide", "[I", true)
  | 6 => ("FingerPosts$Signs", "highSide", "[I", true)
  | 7 => ("FingerPosts$Signs", "postsAhead", "[I", true)
  | 8 => ("FingerPosts$Signs", "namesBeside", "[I", true)
  | _ => ("FingerPosts$Signs", "size", "I", false)
def tyX0 : Nat → FieldType := fun k => match k with
  | 0 => .array .int
  | 1 => .array .int
  | 2 => .array .int
  | 3 => .array .int
  | 4 => .array .int
  | 5 => .array .int
  | 6 => .array .int
  | 7 => .array .int
  | 8 => .array .int
  | _ => .int
abbrev wsX00 : List Cond := u_ws RX0 TX0 10
theorem nmX0 : ∀ a, a < 10 → ∀ b, b < 10 → a ≠ b → (TX0 a).2.1 ≠ (TX0 b).2.1 := by decide +kernel
theorem tyX0_ok : ∀ k, k < 10 → parseFieldDescriptor (TX0 k).2.2.1 = some (tyX0 k) := by decide +kernel
abbrev cX0_init : ByteArray := prog_2_method_1_code
def yX0_init : MethodName := ⟨RX0, "<init>", "()V"⟩
abbrev cX0_size : ByteArray := prog_2_method_2_code
def yX0_size : MethodName := ⟨RX0, "size", "()I"⟩
abbrev cX0_fill : ByteArray := prog_2_method_3_code
def yX0_fill : MethodName := ⟨RX0, "fill", "(LFingerPosts$Villages;)V"⟩
abbrev cX0_tell : ByteArray := prog_2_method_4_code
def yX0_tell : MethodName := ⟨RX0, "tell", "(II)I"⟩
abbrev cX0_tellWalk : ByteArray := prog_2_method_5_code
def yX0_tellWalk : MethodName := ⟨RX0, "tellWalk", "(II)I"⟩
abbrev cX0_postCount : ByteArray := prog_2_method_6_code
def yX0_postCount : MethodName := ⟨RX0, "postCount", "()I"⟩
abbrev cX0_postBits : ByteArray := prog_2_method_7_code
def yX0_postBits : MethodName := ⟨RX0, "postBits", "()I"⟩
abbrev cX0_longestPath : ByteArray := prog_2_method_8_code
def yX0_longestPath : MethodName := ⟨RX0, "longestPath", "()I"⟩
abbrev cX0_addedPaths : ByteArray := prog_2_method_9_code
def yX0_addedPaths : MethodName := ⟨RX0, "addedPaths", "()I"⟩
abbrev cX0_bestGivenUp : ByteArray := prog_2_method_10_code
def yX0_bestGivenUp : MethodName := ⟨RX0, "bestGivenUp", "()I"⟩
abbrev cX0_isPost : ByteArray := prog_2_method_11_code
def yX0_isPost : MethodName := ⟨RX0, "isPost", "(I)Z"⟩
abbrev cX0_placeBy : ByteArray := prog_2_method_12_code
def yX0_placeBy : MethodName := ⟨RX0, "placeBy", "(I)I"⟩
abbrev cX0_begin : ByteArray := prog_2_method_13_code
def yX0_begin : MethodName := ⟨RX0, "begin", "(IIIII)V"⟩
abbrev cX0_fillAt : ByteArray := prog_2_method_14_code
def yX0_fillAt : MethodName := ⟨RX0, "fillAt", "(ILFingerPosts$Villages;)V"⟩
abbrev cX0_fillSides : ByteArray := prog_2_method_15_code
def yX0_fillSides : MethodName := ⟨RX0, "fillSides", "(ILFingerPosts$Villages;)V"⟩
def RX1 : String := "FingerPosts$Villages"
def TX1 : u_T := fun k => match k with
  | 0 => ("FingerPosts$Villages", "names", "[I", true)
  | 1 => ("FingerPosts$Villages", "miles", "[I", true)
  | _ => ("FingerPosts$Villages", "size", "I", false)
def tyX1 : Nat → FieldType := fun k => match k with
  | 0 => .array .int
  | 1 => .array .int
  | _ => .int
abbrev wsX10 : List Cond := u_ws RX1 TX1 3
theorem nmX1 : ∀ a, a < 3 → ∀ b, b < 3 → a ≠ b → (TX1 a).2.1 ≠ (TX1 b).2.1 := by decide +kernel
theorem tyX1_ok : ∀ k, k < 3 → parseFieldDescriptor (TX1 k).2.2.1 = some (tyX1 k) := by decide +kernel
abbrev cX1_init : ByteArray := prog_3_method_1_code
def yX1_init : MethodName := ⟨RX1, "<init>", "()V"⟩
abbrev cX1_size : ByteArray := prog_3_method_2_code
def yX1_size : MethodName := ⟨RX1, "size", "()I"⟩
abbrev cX1_nameAt : ByteArray := prog_3_method_3_code
def yX1_nameAt : MethodName := ⟨RX1, "nameAt", "(I)I"⟩
abbrev cX1_milesAt : ByteArray := prog_3_method_4_code
def yX1_milesAt : MethodName := ⟨RX1, "milesAt", "(I)I"⟩
abbrev cX1_milesOf : ByteArray := prog_3_method_5_code
def yX1_milesOf : MethodName := ⟨RX1, "milesOf", "(I)I"⟩
abbrev cX1_smallerThan : ByteArray := prog_3_method_6_code
def yX1_smallerThan : MethodName := ⟨RX1, "smallerThan", "(I)I"⟩
abbrev cX1_namesAlsoIn : ByteArray := prog_3_method_7_code
def yX1_namesAlsoIn : MethodName := ⟨RX1, "namesAlsoIn", "(LFingerPosts$Villages;)I"⟩
abbrev cX1_set : ByteArray := prog_3_method_8_code
def yX1_set : MethodName := ⟨RX1, "set", "(II)V"⟩
abbrev cX1_setAll : ByteArray := prog_3_method_9_code
def yX1_setAll : MethodName := ⟨RX1, "setAll", "(LFingerPosts$Villages;)V"⟩
abbrev cX1_removeName : ByteArray := prog_3_method_10_code
def yX1_removeName : MethodName := ⟨RX1, "removeName", "(I)V"⟩
abbrev cX1_keepFirst : ByteArray := prog_3_method_11_code
def yX1_keepFirst : MethodName := ⟨RX1, "keepFirst", "(I)V"⟩
abbrev cX1_changeBits : ByteArray := prog_3_method_12_code
def yX1_changeBits : MethodName := ⟨RX1, "changeBits", "(I)V"⟩
abbrev cX1_addedMiles : ByteArray := prog_3_method_13_code
def yX1_addedMiles : MethodName := ⟨RX1, "addedMiles", "(II)I"⟩
abbrev cX1_mostMiles : ByteArray := prog_3_method_14_code
def yX1_mostMiles : MethodName := ⟨RX1, "mostMiles", "(II)I"⟩
abbrev cX1_sharedBits : ByteArray := prog_3_method_15_code
def yX1_sharedBits : MethodName := ⟨RX1, "sharedBits", "(II)I"⟩
abbrev cX1_nearest : ByteArray := prog_3_method_16_code
def yX1_nearest : MethodName := ⟨RX1, "nearest", "(I)I"⟩
abbrev cX1_farthest : ByteArray := prog_3_method_17_code
def yX1_farthest : MethodName := ⟨RX1, "farthest", "()I"⟩
abbrev cX1_makeRoomAt : ByteArray := prog_3_method_18_code
def yX1_makeRoomAt : MethodName := ⟨RX1, "makeRoomAt", "(I)V"⟩
def RX2 : String := "FingerPosts"
def TX2 : u_T := fun k => match k with
  | 0 => ("FingerPosts", "woodZero", "LFingerPosts$Villages;", true)
  | 1 => ("FingerPosts", "woodOne", "LFingerPosts$Villages;", true)
  | 2 => ("FingerPosts", "both", "LFingerPosts$Villages;", true)
  | _ => ("FingerPosts", "signs", "LFingerPosts$Signs;", true)
def tyX2 : Nat → FieldType := fun k => match k with
  | 0 => .object "FingerPosts$Villages"
  | 1 => .object "FingerPosts$Villages"
  | 2 => .object "FingerPosts$Villages"
  | _ => .object "FingerPosts$Signs"
abbrev wsX20 : List Cond := u_ws RX2 TX2 4
theorem nmX2 : ∀ a, a < 4 → ∀ b, b < 4 → a ≠ b → (TX2 a).2.1 ≠ (TX2 b).2.1 := by decide +kernel
theorem tyX2_ok : ∀ k, k < 4 → parseFieldDescriptor (TX2 k).2.2.1 = some (tyX2 k) := by decide +kernel
abbrev cX2_init : ByteArray := prog_1_method_1_code
def yX2_init : MethodName := ⟨RX2, "<init>", "()V"⟩
abbrev cX2_put : ByteArray := prog_1_method_2_code
def yX2_put : MethodName := ⟨RX2, "put", "(III)I"⟩
abbrev cX2_take : ByteArray := prog_1_method_3_code
def yX2_take : MethodName := ⟨RX2, "take", "(II)I"⟩
abbrev cX2_merge : ByteArray := prog_1_method_4_code
def yX2_merge : MethodName := ⟨RX2, "merge", "(II)I"⟩
abbrev cX2_cut : ByteArray := prog_1_method_5_code
def yX2_cut : MethodName := ⟨RX2, "cut", "(II)I"⟩
abbrev cX2_turn : ByteArray := prog_1_method_6_code
def yX2_turn : MethodName := ⟨RX2, "turn", "(II)I"⟩
abbrev cX2_miles : ByteArray := prog_1_method_7_code
def yX2_miles : MethodName := ⟨RX2, "miles", "(II)I"⟩
abbrev cX2_count : ByteArray := prog_1_method_8_code
def yX2_count : MethodName := ⟨RX2, "count", "(II)I"⟩
abbrev cX2_sign : ByteArray := prog_1_method_9_code
def yX2_sign : MethodName := ⟨RX2, "sign", "(III)I"⟩
abbrev cX2_walk : ByteArray := prog_1_method_10_code
def yX2_walk : MethodName := ⟨RX2, "walk", "(III)I"⟩
abbrev cX2_step : ByteArray := prog_1_method_11_code
def yX2_step : MethodName := ⟨RX2, "step", "(IIZ)I"⟩
abbrev cX2_at : ByteArray := prog_1_method_12_code
def yX2_at : MethodName := ⟨RX2, "at", "(II)I"⟩
abbrev cX2_range : ByteArray := prog_1_method_13_code
def yX2_range : MethodName := ⟨RX2, "range", "(IIII)I"⟩
abbrev cX2_near : ByteArray := prog_1_method_14_code
def yX2_near : MethodName := ⟨RX2, "near", "(II)I"⟩
abbrev cX2_far : ByteArray := prog_1_method_15_code
def yX2_far : MethodName := ⟨RX2, "far", "(I)I"⟩
abbrev cX2_unlike : ByteArray := prog_1_method_16_code
def yX2_unlike : MethodName := ⟨RX2, "unlike", "(II)I"⟩
abbrev cX2_would : ByteArray := prog_1_method_17_code
def yX2_would : MethodName := ⟨RX2, "would", "(I)I"⟩
abbrev cX2_advise : ByteArray := prog_1_method_18_code
def yX2_advise : MethodName := ⟨RX2, "advise", "(I)I"⟩
abbrev cX2_mean : ByteArray := prog_1_method_19_code
def yX2_mean : MethodName := ⟨RX2, "mean", "(I)D"⟩
abbrev cX2_digest : ByteArray := prog_1_method_20_code
def yX2_digest : MethodName := ⟨RX2, "digest", "()J"⟩
abbrev cX2_digestOfWood : ByteArray := prog_1_method_21_code
def yX2_digestOfWood : MethodName := ⟨RX2, "digestOfWood", "(JLFingerPosts$Villages;)J"⟩
abbrev cX2_digested : ByteArray := prog_1_method_22_code
def yX2_digested : MethodName := ⟨RX2, "digested", "(JI)J"⟩
abbrev cX2_villagesOf : ByteArray := prog_1_method_23_code
def yX2_villagesOf : MethodName := ⟨RX2, "villagesOf", "(I)LFingerPosts$Villages;"⟩
abbrev cX2_otherThan : ByteArray := prog_1_method_24_code
def yX2_otherThan : MethodName := ⟨RX2, "otherThan", "(I)LFingerPosts$Villages;"⟩
abbrev cX2_fillBoth : ByteArray := prog_1_method_25_code
def yX2_fillBoth : MethodName := ⟨RX2, "fillBoth", "()V"⟩
abbrev cX2_countOf : ByteArray := prog_1_method_26_code
def yX2_countOf : MethodName := ⟨RX2, "countOf", "(LFingerPosts$Villages;LFingerPosts$Signs;I)I"⟩
abbrev cX2_mergedMiles : ByteArray := prog_1_method_27_code
def yX2_mergedMiles : MethodName := ⟨RX2, "mergedMiles", "(III)I"⟩
abbrev cX2_checkWood : ByteArray := prog_1_method_28_code
def yX2_checkWood : MethodName := ⟨RX2, "checkWood", "(I)V"⟩
abbrev cX2_checkIndex : ByteArray := prog_1_method_29_code
def yX2_checkIndex : MethodName := ⟨RX2, "checkIndex", "(II)V"⟩
abbrev cX2_checkName : ByteArray := prog_1_method_30_code
def yX2_checkName : MethodName := ⟨RX2, "checkName", "(I)V"⟩
abbrev cX2_checkMiles : ByteArray := prog_1_method_31_code
def yX2_checkMiles : MethodName := ⟨RX2, "checkMiles", "(I)V"⟩
abbrev cX2_checkNotEmpty : ByteArray := prog_1_method_32_code
def yX2_checkNotEmpty : MethodName := ⟨RX2, "checkNotEmpty", "(LFingerPosts$Villages;)V"⟩
abbrev cX2_hasBit : ByteArray := prog_1_method_33_code
def yX2_hasBit : MethodName := ⟨RX2, "hasBit", "(II)Z"⟩
abbrev cX2_firstUnlikeBit : ByteArray := prog_1_method_34_code
def yX2_firstUnlikeBit : MethodName := ⟨RX2, "firstUnlikeBit", "(II)I"⟩
abbrev cX2_read : ByteArray := prog_1_method_35_code
def yX2_read : MethodName := ⟨RX2, "read", "([II)I"⟩
abbrev cX2_write : ByteArray := prog_1_method_36_code
def yX2_write : MethodName := ⟨RX2, "write", "([III)V"⟩
def RX3 : String := "FingerPostsModel"
def TX3 : u_T := fun k => match k with
  | 0 => ("FingerPostsModel", "thrown", "I", false)
  | 1 => ("FingerPostsModel", "size", "[I", true)
  | 2 => ("FingerPostsModel", "names", "[I", true)
  | 3 => ("FingerPostsModel", "miles", "[I", true)
  | 4 => ("FingerPostsModel", "row", "[I", true)
  | 5 => ("FingerPostsModel", "rowSize", "I", false)
  | 6 => ("FingerPostsModel", "signs", "I", false)
  | 7 => ("FingerPostsModel", "bit", "[I", true)
  | 8 => ("FingerPostsModel", "first", "[I", true)
  | 9 => ("FingerPostsModel", "behind", "[I", true)
  | 10 => ("FingerPostsModel", "low", "[I", true)
  | 11 => ("FingerPostsModel", "high", "[I", true)
  | _ => ("FingerPostsModel", "ahead", "[I", true)
def tyX3 : Nat → FieldType := fun k => match k with
  | 0 => .int
  | 1 => .array .int
  | 2 => .array .int
  | 3 => .array .int
  | 4 => .array .int
  | 5 => .int
  | 6 => .int
  | 7 => .array .int
  | 8 => .array .int
  | 9 => .array .int
  | 10 => .array .int
  | 11 => .array .int
  | _ => .array .int
abbrev wsX30 : List Cond := u_ws RX3 TX3 13
theorem nmX3 : ∀ a, a < 13 → ∀ b, b < 13 → a ≠ b → (TX3 a).2.1 ≠ (TX3 b).2.1 := by decide +kernel
theorem tyX3_ok : ∀ k, k < 13 → parseFieldDescriptor (TX3 k).2.2.1 = some (tyX3 k) := by decide +kernel
abbrev cX3_init : ByteArray := prog_5_method_1_code
def yX3_init : MethodName := ⟨RX3, "<init>", "()V"⟩
abbrev cX3_thrown : ByteArray := prog_5_method_2_code
def yX3_thrown : MethodName := ⟨RX3, "thrown", "()I"⟩
abbrev cX3_no : ByteArray := prog_5_method_3_code
def yX3_no : MethodName := ⟨RX3, "no", "(I)I"⟩
abbrev cX3_isIn : ByteArray := prog_5_method_4_code
def yX3_isIn : MethodName := ⟨RX3, "isIn", "(III)Z"⟩
abbrev cX3_isWood : ByteArray := prog_5_method_5_code
def yX3_isWood : MethodName := ⟨RX3, "isWood", "(I)Z"⟩
abbrev cX3_isName : ByteArray := prog_5_method_6_code
def yX3_isName : MethodName := ⟨RX3, "isName", "(I)Z"⟩
abbrev cX3_topBit : ByteArray := prog_5_method_7_code
def yX3_topBit : MethodName := ⟨RX3, "topBit", "(I)I"⟩
abbrev cX3_smaller : ByteArray := prog_5_method_8_code
def yX3_smaller : MethodName := ⟨RX3, "smaller", "(II)I"⟩
abbrev cX3_isThere : ByteArray := prog_5_method_9_code
def yX3_isThere : MethodName := ⟨RX3, "isThere", "(II)Z"⟩
abbrev cX3_insert : ByteArray := prog_5_method_10_code
def yX3_insert : MethodName := ⟨RX3, "insert", "(III)V"⟩
abbrev cX3_remove : ByteArray := prog_5_method_11_code
def yX3_remove : MethodName := ⟨RX3, "remove", "(II)I"⟩
abbrev cX3_common : ByteArray := prog_5_method_12_code
def yX3_common : MethodName := ⟨RX3, "common", "()I"⟩
abbrev cX3_part : ByteArray := prog_5_method_13_code
def yX3_part : MethodName := ⟨RX3, "part", "(III)I"⟩
abbrev cX3_makeSigns : ByteArray := prog_5_method_14_code
def yX3_makeSigns : MethodName := ⟨RX3, "makeSigns", "()V"⟩
abbrev cX3_look : ByteArray := prog_5_method_15_code
def yX3_look : MethodName := ⟨RX3, "look", "(I)V"⟩
abbrev cX3_lookWithout : ByteArray := prog_5_method_16_code
def yX3_lookWithout : MethodName := ⟨RX3, "lookWithout", "(II)V"⟩
abbrev cX3_lookAtBoth : ByteArray := prog_5_method_17_code
def yX3_lookAtBoth : MethodName := ⟨RX3, "lookAtBoth", "()V"⟩
abbrev cX3_longest : ByteArray := prog_5_method_18_code
def yX3_longest : MethodName := ⟨RX3, "longest", "()I"⟩
abbrev cX3_allPaths : ByteArray := prog_5_method_19_code
def yX3_allPaths : MethodName := ⟨RX3, "allPaths", "()I"⟩
abbrev cX3_shared : ByteArray := prog_5_method_20_code
def yX3_shared : MethodName := ⟨RX3, "shared", "(II)I"⟩
abbrev cX3_bitsOfPosts : ByteArray := prog_5_method_21_code
def yX3_bitsOfPosts : MethodName := ⟨RX3, "bitsOfPosts", "()I"⟩
abbrev cX3_walkTo : ByteArray := prog_5_method_22_code
def yX3_walkTo : MethodName := ⟨RX3, "walkTo", "(I)I"⟩
abbrev cX3_put : ByteArray := prog_5_method_23_code
def yX3_put : MethodName := ⟨RX3, "put", "(III)I"⟩
abbrev cX3_take : ByteArray := prog_5_method_24_code
def yX3_take : MethodName := ⟨RX3, "take", "(II)I"⟩
abbrev cX3_joined : ByteArray := prog_5_method_25_code
def yX3_joined : MethodName := ⟨RX3, "joined", "(III)I"⟩
abbrev cX3_merge : ByteArray := prog_5_method_26_code
def yX3_merge : MethodName := ⟨RX3, "merge", "(II)I"⟩
abbrev cX3_cut : ByteArray := prog_5_method_27_code
def yX3_cut : MethodName := ⟨RX3, "cut", "(II)I"⟩
abbrev cX3_turn : ByteArray := prog_5_method_28_code
def yX3_turn : MethodName := ⟨RX3, "turn", "(II)I"⟩
abbrev cX3_miles : ByteArray := prog_5_method_29_code
def yX3_miles : MethodName := ⟨RX3, "miles", "(II)I"⟩
abbrev cX3_counted : ByteArray := prog_5_method_30_code
def yX3_counted : MethodName := ⟨RX3, "counted", "(II)I"⟩
abbrev cX3_count : ByteArray := prog_5_method_31_code
def yX3_count : MethodName := ⟨RX3, "count", "(II)I"⟩
abbrev cX3_signTold : ByteArray := prog_5_method_32_code
def yX3_signTold : MethodName := ⟨RX3, "signTold", "(II)I"⟩
abbrev cX3_sign : ByteArray := prog_5_method_33_code
def yX3_sign : MethodName := ⟨RX3, "sign", "(III)I"⟩
abbrev cX3_walk : ByteArray := prog_5_method_34_code
def yX3_walk : MethodName := ⟨RX3, "walk", "(III)I"⟩
abbrev cX3_step : ByteArray := prog_5_method_35_code
def yX3_step : MethodName := ⟨RX3, "step", "(IIZ)I"⟩
abbrev cX3_at : ByteArray := prog_5_method_36_code
def yX3_at : MethodName := ⟨RX3, "at", "(II)I"⟩
abbrev cX3_ranged : ByteArray := prog_5_method_37_code
def yX3_ranged : MethodName := ⟨RX3, "ranged", "(IIII)I"⟩
abbrev cX3_range : ByteArray := prog_5_method_38_code
def yX3_range : MethodName := ⟨RX3, "range", "(IIII)I"⟩
abbrev cX3_near : ByteArray := prog_5_method_39_code
def yX3_near : MethodName := ⟨RX3, "near", "(II)I"⟩
abbrev cX3_farthest : ByteArray := prog_5_method_40_code
def yX3_farthest : MethodName := ⟨RX3, "farthest", "(I)I"⟩
abbrev cX3_far : ByteArray := prog_5_method_41_code
def yX3_far : MethodName := ⟨RX3, "far", "(I)I"⟩
abbrev cX3_unlike : ByteArray := prog_5_method_42_code
def yX3_unlike : MethodName := ⟨RX3, "unlike", "(II)I"⟩
abbrev cX3_wouldBe : ByteArray := prog_5_method_43_code
def yX3_wouldBe : MethodName := ⟨RX3, "wouldBe", "(I)I"⟩
abbrev cX3_would : ByteArray := prog_5_method_44_code
def yX3_would : MethodName := ⟨RX3, "would", "(I)I"⟩
abbrev cX3_advise : ByteArray := prog_5_method_45_code
def yX3_advise : MethodName := ⟨RX3, "advise", "(I)I"⟩
abbrev cX3_mean : ByteArray := prog_5_method_46_code
def yX3_mean : MethodName := ⟨RX3, "mean", "(I)D"⟩
abbrev cX3_digest : ByteArray := prog_5_method_47_code
def yX3_digest : MethodName := ⟨RX3, "digest", "()J"⟩
def RJ6 : String := "java/lang/Integer"
def TJ6 : u_T := fun k => match k with
  | _ => ("", "", "", false)
def tyJ6 : Nat → FieldType := fun k => match k with
  | _ => .int
abbrev wsJ60 : List Cond := u_ws RJ6 TJ6 0
theorem nmJ6 : ∀ a, a < 0 → ∀ b, b < 0 → a ≠ b → (TJ6 a).2.1 ≠ (TJ6 b).2.1 := by decide +kernel
theorem tyJ6_ok : ∀ k, k < 0 → parseFieldDescriptor (TJ6 k).2.2.1 = some (tyJ6 k) := by decide +kernel
abbrev cJ6_numberOfLeadingZeros_0f7a4 : ByteArray := prog_10_method_47_code
def yJ6_numberOfLeadingZeros_0f7a4 : MethodName := ⟨RJ6, "numberOfLeadingZeros", "(I)I"⟩
def RJ9 : String := "java/lang/Math"
def TJ9 : u_T := fun k => match k with
  | _ => ("", "", "", false)
def tyJ9 : Nat → FieldType := fun k => match k with
  | _ => .int
abbrev wsJ90 : List Cond := u_ws RJ9 TJ9 0
theorem nmJ9 : ∀ a, a < 0 → ∀ b, b < 0 → a ≠ b → (TJ9 a).2.1 ≠ (TJ9 b).2.1 := by decide +kernel
theorem tyJ9_ok : ∀ k, k < 0 → parseFieldDescriptor (TJ9 k).2.2.1 = some (tyJ9 k) := by decide +kernel
abbrev cJ9_max_7cf53 : ByteArray := prog_11_method_65_code
def yJ9_max_7cf53 : MethodName := ⟨RJ9, "max", "(II)I"⟩
abbrev cJ9_min_7cf53 : ByteArray := prog_11_method_69_code
def yJ9_min_7cf53 : MethodName := ⟨RJ9, "min", "(II)I"⟩
def RJ0 : String := "java/lang/String"
def TJ0 : u_T := fun k => match k with
  | _ => ("", "", "", false)
def tyJ0 : Nat → FieldType := fun k => match k with
  | _ => .int
abbrev wsJ00 : List Cond := u_ws RJ0 TJ0 0
theorem nmJ0 : ∀ a, a < 0 → ∀ b, b < 0 → a ≠ b → (TJ0 a).2.1 ≠ (TJ0 b).2.1 := by decide +kernel
theorem tyJ0_ok : ∀ k, k < 0 → parseFieldDescriptor (TJ0 k).2.2.1 = some (tyJ0 k) := by decide +kernel
def RJ10 : String := "java/lang/System"
def TJ10 : u_T := fun k => match k with
  | _ => ("", "", "", false)
def tyJ10 : Nat → FieldType := fun k => match k with
  | _ => .int
abbrev wsJ100 : List Cond := u_ws RJ10 TJ10 0
theorem nmJ10 : ∀ a, a < 0 → ∀ b, b < 0 → a ≠ b → (TJ10 a).2.1 ≠ (TJ10 b).2.1 := by decide +kernel
theorem tyJ10_ok : ∀ k, k < 0 → parseFieldDescriptor (TJ10 k).2.2.1 = some (tyJ10 k) := by decide +kernel
def RL : String := "FingerPostsLaw"
abbrev cL_put : ByteArray := method_3_code
def yL_put : MethodName := ⟨RL, "put", "(LFingerPosts;III[J)I"⟩
abbrev cL_take : ByteArray := method_4_code
def yL_take : MethodName := ⟨RL, "take", "(LFingerPosts;II[J)I"⟩
abbrev cL_merge : ByteArray := method_5_code
def yL_merge : MethodName := ⟨RL, "merge", "(LFingerPosts;II[J)I"⟩
abbrev cL_cut : ByteArray := method_6_code
def yL_cut : MethodName := ⟨RL, "cut", "(LFingerPosts;II[J)I"⟩
abbrev cL_turn : ByteArray := method_7_code
def yL_turn : MethodName := ⟨RL, "turn", "(LFingerPosts;II[J)I"⟩
abbrev cL_miles : ByteArray := method_8_code
def yL_miles : MethodName := ⟨RL, "miles", "(LFingerPosts;II[J)I"⟩
abbrev cL_count : ByteArray := method_9_code
def yL_count : MethodName := ⟨RL, "count", "(LFingerPosts;II[J)I"⟩
abbrev cL_sign : ByteArray := method_10_code
def yL_sign : MethodName := ⟨RL, "sign", "(LFingerPosts;III[J)I"⟩
abbrev cL_walk : ByteArray := method_11_code
def yL_walk : MethodName := ⟨RL, "walk", "(LFingerPosts;III[J)I"⟩
abbrev cL_step : ByteArray := method_12_code
def yL_step : MethodName := ⟨RL, "step", "(LFingerPosts;IIZ[J)I"⟩
abbrev cL_at : ByteArray := method_13_code
def yL_at : MethodName := ⟨RL, "at", "(LFingerPosts;II[J)I"⟩
abbrev cL_range : ByteArray := method_14_code
def yL_range : MethodName := ⟨RL, "range", "(LFingerPosts;IIII[J)I"⟩
abbrev cL_near : ByteArray := method_15_code
def yL_near : MethodName := ⟨RL, "near", "(LFingerPosts;II[J)I"⟩
abbrev cL_far : ByteArray := method_16_code
def yL_far : MethodName := ⟨RL, "far", "(LFingerPosts;I[J)I"⟩
abbrev cL_unlike : ByteArray := method_17_code
def yL_unlike : MethodName := ⟨RL, "unlike", "(LFingerPosts;II[J)I"⟩
abbrev cL_would : ByteArray := method_18_code
def yL_would : MethodName := ⟨RL, "would", "(LFingerPosts;I[J)I"⟩
abbrev cL_advise : ByteArray := method_19_code
def yL_advise : MethodName := ⟨RL, "advise", "(LFingerPosts;I[J)I"⟩
abbrev cL_mean : ByteArray := method_20_code
def yL_mean : MethodName := ⟨RL, "mean", "(LFingerPosts;I[D)I"⟩
abbrev cL_law : ByteArray := code
def yL_law : MethodName := ⟨RL, "law", "([I)Z"⟩
abbrev vwCl : List vw_C := [(RX0, TX0, 10), (RX1, TX1, 3), (RX2, TX2, 4), (RX3, TX3, 13)]
end
section
theorem dX0_init_0 : decode cX0_init 0 = .ok (.aload_n 0, 1) := by decide +kernel
theorem dX0_init_1 : decode cX0_init 1 = .ok (.invokespecial 3, 3) := by decide +kernel
theorem dX0_init_4 : decode cX0_init 4 = .ok (.aload_n 0, 1) := by decide +kernel
theorem dX0_init_5 : decode cX0_init 5 = .ok (.bipush 95, 2) := by decide +kernel
theorem dX0_init_7 : decode cX0_init 7 = .ok (.newarray .int, 2) := by decide +kernel
theorem dX0_init_9 : decode cX0_init 9 = .ok (.putfield 9, 3) := by decide +kernel
theorem dX0_init_12 : decode cX0_init 12 = .ok (.aload_n 0, 1) := by decide +kernel
theorem dX0_init_13 : decode cX0_init 13 = .ok (.bipush 95, 2) := by decide +kernel
theorem dX0_init_15 : decode cX0_init 15 = .ok (.newarray .int, 2) := by decide +kernel
theorem dX0_init_17 : decode cX0_init 17 = .ok (.putfield 15, 3) := by decide +kernel
theorem dX0_init_20 : decode cX0_init 20 = .ok (.aload_n 0, 1) := by decide +kernel
theorem dX0_init_21 : decode cX0_init 21 = .ok (.bipush 95, 2) := by decide +kernel
theorem dX0_init_23 : decode cX0_init 23 = .ok (.newarray .int, 2) := by decide +kernel
theorem dX0_init_25 : decode cX0_init 25 = .ok (.putfield 18, 3) := by decide +kernel
theorem dX0_init_28 : decode cX0_init 28 = .ok (.aload_n 0, 1) := by decide +kernel
theorem dX0_init_29 : decode cX0_init 29 = .ok (.bipush 95, 2) := by decide +kernel
theorem dX0_init_31 : decode cX0_init 31 = .ok (.newarray .int, 2) := by decide +kernel
theorem dX0_init_33 : decode cX0_init 33 = .ok (.putfield 21, 3) := by decide +kernel
theorem dX0_init_36 : decode cX0_init 36 = .ok (.aload_n 0, 1) := by decide +kernel
theorem dX0_init_37 : decode cX0_init 37 = .ok (.bipush 95, 2) := by decide +kernel
theorem dX0_init_39 : decode cX0_init 39 = .ok (.newarray .int, 2) := by decide +kernel
theorem dX0_init_41 : decode cX0_init 41 = .ok (.putfield 24, 3) := by decide +kernel
theorem dX0_init_44 : decode cX0_init 44 = .ok (.aload_n 0, 1) := by decide +kernel
theorem dX0_init_45 : decode cX0_init 45 = .ok (.bipush 95, 2) := by decide +kernel
theorem dX0_init_47 : decode cX0_init 47 = .ok (.newarray .int, 2) := by decide +kernel
theorem dX0_init_49 : decode cX0_init 49 = .ok (.putfield 27, 3) := by decide +kernel
theorem dX0_init_52 : decode cX0_init 52 = .ok (.aload_n 0, 1) := by decide +kernel
theorem dX0_init_53 : decode cX0_init 53 = .ok (.bipush 95, 2) := by decide +kernel
theorem dX0_init_55 : decode cX0_init 55 = .ok (.newarray .int, 2) := by decide +kernel
theorem dX0_init_57 : decode cX0_init 57 = .ok (.putfield 30, 3) := by decide +kernel
theorem dX0_init_60 : decode cX0_init 60 = .ok (.aload_n 0, 1) := by decide +kernel
theorem dX0_init_61 : decode cX0_init 61 = .ok (.bipush 95, 2) := by decide +kernel
theorem dX0_init_63 : decode cX0_init 63 = .ok (.newarray .int, 2) := by decide +kernel
theorem dX0_init_65 : decode cX0_init 65 = .ok (.putfield 33, 3) := by decide +kernel
theorem dX0_init_68 : decode cX0_init 68 = .ok (.aload_n 0, 1) := by decide +kernel
theorem dX0_init_69 : decode cX0_init 69 = .ok (.bipush 95, 2) := by decide +kernel
theorem dX0_init_71 : decode cX0_init 71 = .ok (.newarray .int, 2) := by decide +kernel
theorem dX0_init_73 : decode cX0_init 73 = .ok (.putfield 36, 3) := by decide +kernel
theorem dX0_init_76 : decode cX0_init 76 = .ok (.return_, 1) := by decide +kernel
theorem dX0_size_0 : decode cX0_size 0 = .ok (.aload_n 0, 1) := by decide +kernel
theorem dX0_size_1 : decode cX0_size 1 = .ok (.getfield 39, 3) := by decide +kernel
theorem dX0_size_4 : decode cX0_size 4 = .ok (.ireturn, 1) := by decide +kernel
theorem dX0_fill_0 : decode cX0_fill 0 = .ok (.aload_n 1, 1) := by decide +kernel
theorem dX0_fill_1 : decode cX0_fill 1 = .ok (.invokevirtual 43, 3) := by decide +kernel
theorem dX0_fill_4 : decode cX0_fill 4 = .ok (.istore_n 2, 1) := by decide +kernel
theorem dX0_fill_5 : decode cX0_fill 5 = .ok (.aload_n 0, 1) := by decide +kernel
theorem dX0_fill_6 : decode cX0_fill 6 = .ok (.iload_n 2, 1) := by decide +kernel
theorem dX0_fill_7 : decode cX0_fill 7 = .ok (.ifCond .ne 7, 3) := by decide +kernel
theorem dX0_fill_10 : decode cX0_fill 10 = .ok (.iconst 0, 1) := by decide +kernel
theorem dX0_fill_11 : decode cX0_fill 11 = .ok (.goto 8, 3) := by decide +kernel
theorem dX0_fill_14 : decode cX0_fill 14 = .ok (.iconst 2, 1) := by decide +kernel
theorem dX0_fill_15 : decode cX0_fill 15 = .ok (.iload_n 2, 1) := by decide +kernel
theorem dX0_fill_16 : decode cX0_fill 16 = .ok (.imul, 1) := by decide +kernel
theorem dX0_fill_17 : decode cX0_fill 17 = .ok (.iconst 1, 1) := by decide +kernel
theorem dX0_fill_18 : decode cX0_fill 18 = .ok (.isub, 1) := by decide +kernel
theorem dX0_fill_19 : decode cX0_fill 19 = .ok (.putfield 39, 3) := by decide +kernel
theorem dX0_fill_22 : decode cX0_fill 22 = .ok (.aload_n 0, 1) := by decide +kernel
theorem dX0_fill_23 : decode cX0_fill 23 = .ok (.iconst 0, 1) := by decide +kernel
theorem dX0_fill_24 : decode cX0_fill 24 = .ok (.iconst 0, 1) := by decide +kernel
theorem dX0_fill_25 : decode cX0_fill 25 = .ok (.iload_n 2, 1) := by decide +kernel
theorem dX0_fill_26 : decode cX0_fill 26 = .ok (.iconst 0, 1) := by decide +kernel
theorem dX0_fill_27 : decode cX0_fill 27 = .ok (.iconst 0, 1) := by decide +kernel
theorem dX0_fill_28 : decode cX0_fill 28 = .ok (.invokevirtual 48, 3) := by decide +kernel
theorem dX0_fill_31 : decode cX0_fill 31 = .ok (.iconst 0, 1) := by decide +kernel
theorem dX0_fill_32 : decode cX0_fill 32 = .ok (.istore_n 3, 1) := by decide +kernel
theorem dX0_fill_33 : decode cX0_fill 33 = .ok (.iload_n 3, 1) := by decide +kernel
theorem dX0_fill_34 : decode cX0_fill 34 = .ok (.aload_n 0, 1) := by decide +kernel
theorem dX0_fill_35 : decode cX0_fill 35 = .ok (.getfield 39, 3) := by decide +kernel
theorem dX0_fill_38 : decode cX0_fill 38 = .ok (.if_icmp .ge 15, 3) := by decide +kernel
theorem dX0_fill_41 : decode cX0_fill 41 = .ok (.aload_n 0, 1) := by decide +kernel
theorem dX0_fill_42 : decode cX0_fill 42 = .ok (.iload_n 3, 1) := by decide +kernel
theorem dX0_fill_43 : decode cX0_fill 43 = .ok (.aload_n 1, 1) := by decide +kernel
theorem dX0_fill_44 : decode cX0_fill 44 = .ok (.invokevirtual 52, 3) := by decide +kernel
theorem dX0_fill_47 : decode cX0_fill 47 = .ok (.iinc 3 1, 3) := by decide +kernel
theorem dX0_fill_50 : decode cX0_fill 50 = .ok (.goto (-17), 3) := by decide +kernel
theorem dX0_fill_53 : decode cX0_fill 53 = .ok (.return_, 1) := by decide +kernel
theorem dX0_tell_0 : decode cX0_tell 0 = .ok (.iload_n 2, 1) := by decide +kernel
theorem dX0_tell_1 : decode cX0_tell 1 = .ok (.tableswitch 93 0 5 #[39, 48, 57, 66, 75, 84], 39) := by decide +kernel
theorem dX0_tell_40 : decode cX0_tell 40 = .ok (.aload_n 0, 1) := by decide +kernel
theorem dX0_tell_41 : decode cX0_tell 41 = .ok (.getfield 9, 3) := by decide +kernel
theorem dX0_tell_44 : decode cX0_tell 44 = .ok (.iload_n 1, 1) := by decide +kernel
theorem dX0_tell_45 : decode cX0_tell 45 = .ok (.invokestatic 56, 3) := by decide +kernel
theorem dX0_tell_48 : decode cX0_tell 48 = .ok (.ireturn, 1) := by decide +kernel
theorem dX0_tell_49 : decode cX0_tell 49 = .ok (.aload_n 0, 1) := by decide +kernel
theorem dX0_tell_50 : decode cX0_tell 50 = .ok (.getfield 18, 3) := by decide +kernel
theorem dX0_tell_53 : decode cX0_tell 53 = .ok (.iload_n 1, 1) := by decide +kernel
theorem dX0_tell_54 : decode cX0_tell 54 = .ok (.invokestatic 56, 3) := by decide +kernel
theorem dX0_tell_57 : decode cX0_tell 57 = .ok (.ireturn, 1) := by decide +kernel
theorem dX0_tell_58 : decode cX0_tell 58 = .ok (.aload_n 0, 1) := by decide +kernel
theorem dX0_tell_59 : decode cX0_tell 59 = .ok (.getfield 21, 3) := by decide +kernel
theorem dX0_tell_62 : decode cX0_tell 62 = .ok (.iload_n 1, 1) := by decide +kernel
theorem dX0_tell_63 : decode cX0_tell 63 = .ok (.invokestatic 56, 3) := by decide +kernel
theorem dX0_tell_66 : decode cX0_tell 66 = .ok (.ireturn, 1) := by decide +kernel
theorem dX0_tell_67 : decode cX0_tell 67 = .ok (.aload_n 0, 1) := by decide +kernel
theorem dX0_tell_68 : decode cX0_tell 68 = .ok (.getfield 24, 3) := by decide +kernel
theorem dX0_tell_71 : decode cX0_tell 71 = .ok (.iload_n 1, 1) := by decide +kernel
theorem dX0_tell_72 : decode cX0_tell 72 = .ok (.invokestatic 56, 3) := by decide +kernel
theorem dX0_tell_75 : decode cX0_tell 75 = .ok (.ireturn, 1) := by decide +kernel
theorem dX0_tell_76 : decode cX0_tell 76 = .ok (.aload_n 0, 1) := by decide +kernel
theorem dX0_tell_77 : decode cX0_tell 77 = .ok (.getfield 27, 3) := by decide +kernel
theorem dX0_tell_80 : decode cX0_tell 80 = .ok (.iload_n 1, 1) := by decide +kernel
theorem dX0_tell_81 : decode cX0_tell 81 = .ok (.invokestatic 56, 3) := by decide +kernel
theorem dX0_tell_84 : decode cX0_tell 84 = .ok (.ireturn, 1) := by decide +kernel
theorem dX0_tell_85 : decode cX0_tell 85 = .ok (.aload_n 0, 1) := by decide +kernel
theorem dX0_tell_86 : decode cX0_tell 86 = .ok (.getfield 30, 3) := by decide +kernel
theorem dX0_tell_89 : decode cX0_tell 89 = .ok (.iload_n 1, 1) := by decide +kernel
theorem dX0_tell_90 : decode cX0_tell 90 = .ok (.invokestatic 56, 3) := by decide +kernel
theorem dX0_tell_93 : decode cX0_tell 93 = .ok (.ireturn, 1) := by decide +kernel
theorem dX0_tell_94 : decode cX0_tell 94 = .ok (.aload_n 0, 1) := by decide +kernel
theorem dX0_tell_95 : decode cX0_tell 95 = .ok (.getfield 33, 3) := by decide +kernel
theorem dX0_tell_98 : decode cX0_tell 98 = .ok (.iload_n 1, 1) := by decide +kernel
theorem dX0_tell_99 : decode cX0_tell 99 = .ok (.invokestatic 56, 3) := by decide +kernel
theorem dX0_tell_102 : decode cX0_tell 102 = .ok (.ireturn, 1) := by decide +kernel
theorem dX0_tellWalk_0 : decode cX0_tellWalk 0 = .ok (.aload_n 0, 1) := by decide +kernel
theorem dX0_tellWalk_1 : decode cX0_tellWalk 1 = .ok (.iload_n 1, 1) := by decide +kernel
theorem dX0_tellWalk_2 : decode cX0_tellWalk 2 = .ok (.invokevirtual 60, 3) := by decide +kernel
theorem dX0_tellWalk_5 : decode cX0_tellWalk 5 = .ok (.istore_n 3, 1) := by decide +kernel
theorem dX0_tellWalk_6 : decode cX0_tellWalk 6 = .ok (.iload_n 2, 1) := by decide +kernel
theorem dX0_tellWalk_7 : decode cX0_tellWalk 7 = .ok (.lookupswitch 43 #[(0, 25), (1, 34)], 25) := by decide +kernel
theorem dX0_tellWalk_32 : decode cX0_tellWalk 32 = .ok (.aload_n 0, 1) := by decide +kernel
theorem dX0_tellWalk_33 : decode cX0_tellWalk 33 = .ok (.getfield 33, 3) := by decide +kernel
theorem dX0_tellWalk_36 : decode cX0_tellWalk 36 = .ok (.iload_n 3, 1) := by decide +kernel
theorem dX0_tellWalk_37 : decode cX0_tellWalk 37 = .ok (.invokestatic 56, 3) := by decide +kernel
theorem dX0_tellWalk_40 : decode cX0_tellWalk 40 = .ok (.ireturn, 1) := by decide +kernel
theorem dX0_tellWalk_41 : decode cX0_tellWalk 41 = .ok (.aload_n 0, 1) := by decide +kernel
theorem dX0_tellWalk_42 : decode cX0_tellWalk 42 = .ok (.getfield 21, 3) := by decide +kernel
theorem dX0_tellWalk_45 : decode cX0_tellWalk 45 = .ok (.iload_n 3, 1) := by decide +kernel
theorem dX0_tellWalk_46 : decode cX0_tellWalk 46 = .ok (.invokestatic 56, 3) := by decide +kernel
theorem dX0_tellWalk_49 : decode cX0_tellWalk 49 = .ok (.ireturn, 1) := by decide +kernel
theorem dX0_tellWalk_50 : decode cX0_tellWalk 50 = .ok (.aload_n 0, 1) := by decide +kernel
theorem dX0_tellWalk_51 : decode cX0_tellWalk 51 = .ok (.getfield 21, 3) := by decide +kernel
theorem dX0_tellWalk_54 : decode cX0_tellWalk 54 = .ok (.iload_n 3, 1) := by decide +kernel
theorem dX0_tellWalk_55 : decode cX0_tellWalk 55 = .ok (.invokestatic 56, 3) := by decide +kernel
theorem dX0_tellWalk_58 : decode cX0_tellWalk 58 = .ok (.iload_n 1, 1) := by decide +kernel
theorem dX0_tellWalk_59 : decode cX0_tellWalk 59 = .ok (.invokestatic 64, 3) := by decide +kernel
theorem dX0_tellWalk_62 : decode cX0_tellWalk 62 = .ok (.ireturn, 1) := by decide +kernel
theorem dX0_postCount_0 : decode cX0_postCount 0 = .ok (.iconst 0, 1) := by decide +kernel
theorem dX0_postCount_1 : decode cX0_postCount 1 = .ok (.istore_n 1, 1) := by decide +kernel
theorem dX0_postCount_2 : decode cX0_postCount 2 = .ok (.iconst 0, 1) := by decide +kernel
theorem dX0_postCount_3 : decode cX0_postCount 3 = .ok (.istore_n 2, 1) := by decide +kernel
theorem dX0_postCount_4 : decode cX0_postCount 4 = .ok (.iload_n 2, 1) := by decide +kernel
theorem dX0_postCount_5 : decode cX0_postCount 5 = .ok (.aload_n 0, 1) := by decide +kernel
theorem dX0_postCount_6 : decode cX0_postCount 6 = .ok (.getfield 39, 3) := by decide +kernel
theorem dX0_postCount_9 : decode cX0_postCount 9 = .ok (.if_icmp .ge 20, 3) := by decide +kernel
theorem dX0_postCount_12 : decode cX0_postCount 12 = .ok (.aload_n 0, 1) := by decide +kernel
theorem dX0_postCount_13 : decode cX0_postCount 13 = .ok (.iload_n 2, 1) := by decide +kernel
theorem dX0_postCount_14 : decode cX0_postCount 14 = .ok (.invokevirtual 68, 3) := by decide +kernel
theorem dX0_postCount_17 : decode cX0_postCount 17 = .ok (.ifCond .eq 6, 3) := by decide +kernel
theorem dX0_postCount_20 : decode cX0_postCount 20 = .ok (.iinc 1 1, 3) := by decide +kernel
theorem dX0_postCount_23 : decode cX0_postCount 23 = .ok (.iinc 2 1, 3) := by decide +kernel
theorem dX0_postCount_26 : decode cX0_postCount 26 = .ok (.goto (-22), 3) := by decide +kernel
theorem dX0_postCount_29 : decode cX0_postCount 29 = .ok (.iload_n 1, 1) := by decide +kernel
theorem dX0_postCount_30 : decode cX0_postCount 30 = .ok (.ireturn, 1) := by decide +kernel
theorem dX0_postBits_0 : decode cX0_postBits 0 = .ok (.iconst 0, 1) := by decide +kernel
theorem dX0_postBits_1 : decode cX0_postBits 1 = .ok (.istore_n 1, 1) := by decide +kernel
theorem dX0_postBits_2 : decode cX0_postBits 2 = .ok (.iconst 0, 1) := by decide +kernel
theorem dX0_postBits_3 : decode cX0_postBits 3 = .ok (.istore_n 2, 1) := by decide +kernel
theorem dX0_postBits_4 : decode cX0_postBits 4 = .ok (.iload_n 2, 1) := by decide +kernel
theorem dX0_postBits_5 : decode cX0_postBits 5 = .ok (.aload_n 0, 1) := by decide +kernel
theorem dX0_postBits_6 : decode cX0_postBits 6 = .ok (.getfield 39, 3) := by decide +kernel
theorem dX0_postBits_9 : decode cX0_postBits 9 = .ok (.if_icmp .ge 30, 3) := by decide +kernel
theorem dX0_postBits_12 : decode cX0_postBits 12 = .ok (.aload_n 0, 1) := by decide +kernel
theorem dX0_postBits_13 : decode cX0_postBits 13 = .ok (.iload_n 2, 1) := by decide +kernel
theorem dX0_postBits_14 : decode cX0_postBits 14 = .ok (.invokevirtual 68, 3) := by decide +kernel
theorem dX0_postBits_17 : decode cX0_postBits 17 = .ok (.ifCond .eq 16, 3) := by decide +kernel
theorem dX0_postBits_20 : decode cX0_postBits 20 = .ok (.iload_n 1, 1) := by decide +kernel
theorem dX0_postBits_21 : decode cX0_postBits 21 = .ok (.iconst 1, 1) := by decide +kernel
theorem dX0_postBits_22 : decode cX0_postBits 22 = .ok (.aload_n 0, 1) := by decide +kernel
theorem dX0_postBits_23 : decode cX0_postBits 23 = .ok (.getfield 9, 3) := by decide +kernel
theorem dX0_postBits_26 : decode cX0_postBits 26 = .ok (.iload_n 2, 1) := by decide +kernel
theorem dX0_postBits_27 : decode cX0_postBits 27 = .ok (.invokestatic 56, 3) := by decide +kernel
theorem dX0_postBits_30 : decode cX0_postBits 30 = .ok (.ishl, 1) := by decide +kernel
theorem dX0_postBits_31 : decode cX0_postBits 31 = .ok (.ior, 1) := by decide +kernel
theorem dX0_postBits_32 : decode cX0_postBits 32 = .ok (.istore_n 1, 1) := by decide +kernel
theorem dX0_postBits_33 : decode cX0_postBits 33 = .ok (.iinc 2 1, 3) := by decide +kernel
theorem dX0_postBits_36 : decode cX0_postBits 36 = .ok (.goto (-32), 3) := by decide +kernel
theorem dX0_postBits_39 : decode cX0_postBits 39 = .ok (.iload_n 1, 1) := by decide +kernel
theorem dX0_postBits_40 : decode cX0_postBits 40 = .ok (.ireturn, 1) := by decide +kernel
theorem dX0_longestPath_0 : decode cX0_longestPath 0 = .ok (.iconst 0, 1) := by decide +kernel
theorem dX0_longestPath_1 : decode cX0_longestPath 1 = .ok (.istore_n 1, 1) := by decide +kernel
theorem dX0_longestPath_2 : decode cX0_longestPath 2 = .ok (.iconst 0, 1) := by decide +kernel
theorem dX0_longestPath_3 : decode cX0_longestPath 3 = .ok (.istore_n 2, 1) := by decide +kernel
theorem dX0_longestPath_4 : decode cX0_longestPath 4 = .ok (.iload_n 2, 1) := by decide +kernel
theorem dX0_longestPath_5 : decode cX0_longestPath 5 = .ok (.aload_n 0, 1) := by decide +kernel
theorem dX0_longestPath_6 : decode cX0_longestPath 6 = .ok (.getfield 39, 3) := by decide +kernel
theorem dX0_longestPath_9 : decode cX0_longestPath 9 = .ok (.if_icmp .ge 22, 3) := by decide +kernel
theorem dX0_longestPath_12 : decode cX0_longestPath 12 = .ok (.iload_n 1, 1) := by decide +kernel
theorem dX0_longestPath_13 : decode cX0_longestPath 13 = .ok (.aload_n 0, 1) := by decide +kernel
theorem dX0_longestPath_14 : decode cX0_longestPath 14 = .ok (.getfield 33, 3) := by decide +kernel
theorem dX0_longestPath_17 : decode cX0_longestPath 17 = .ok (.iload_n 2, 1) := by decide +kernel
theorem dX0_longestPath_18 : decode cX0_longestPath 18 = .ok (.invokestatic 56, 3) := by decide +kernel
theorem dX0_longestPath_21 : decode cX0_longestPath 21 = .ok (.invokestatic 72, 3) := by decide +kernel
theorem dX0_longestPath_24 : decode cX0_longestPath 24 = .ok (.istore_n 1, 1) := by decide +kernel
theorem dX0_longestPath_25 : decode cX0_longestPath 25 = .ok (.iinc 2 1, 3) := by decide +kernel
theorem dX0_longestPath_28 : decode cX0_longestPath 28 = .ok (.goto (-24), 3) := by decide +kernel
theorem dX0_longestPath_31 : decode cX0_longestPath 31 = .ok (.iload_n 1, 1) := by decide +kernel
theorem dX0_longestPath_32 : decode cX0_longestPath 32 = .ok (.ireturn, 1) := by decide +kernel
theorem dX0_addedPaths_0 : decode cX0_addedPaths 0 = .ok (.iconst 0, 1) := by decide +kernel
theorem dX0_addedPaths_1 : decode cX0_addedPaths 1 = .ok (.istore_n 1, 1) := by decide +kernel
theorem dX0_addedPaths_2 : decode cX0_addedPaths 2 = .ok (.iconst 0, 1) := by decide +kernel
theorem dX0_addedPaths_3 : decode cX0_addedPaths 3 = .ok (.istore_n 2, 1) := by decide +kernel
theorem dX0_addedPaths_4 : decode cX0_addedPaths 4 = .ok (.iload_n 2, 1) := by decide +kernel
theorem dX0_addedPaths_5 : decode cX0_addedPaths 5 = .ok (.aload_n 0, 1) := by decide +kernel
theorem dX0_addedPaths_6 : decode cX0_addedPaths 6 = .ok (.getfield 39, 3) := by decide +kernel
theorem dX0_addedPaths_9 : decode cX0_addedPaths 9 = .ok (.if_icmp .ge 28, 3) := by decide +kernel
theorem dX0_addedPaths_12 : decode cX0_addedPaths 12 = .ok (.aload_n 0, 1) := by decide +kernel
theorem dX0_addedPaths_13 : decode cX0_addedPaths 13 = .ok (.iload_n 2, 1) := by decide +kernel
theorem dX0_addedPaths_14 : decode cX0_addedPaths 14 = .ok (.invokevirtual 68, 3) := by decide +kernel
theorem dX0_addedPaths_17 : decode cX0_addedPaths 17 = .ok (.ifCond .ne 14, 3) := by decide +kernel
theorem dX0_addedPaths_20 : decode cX0_addedPaths 20 = .ok (.iload_n 1, 1) := by decide +kernel
theorem dX0_addedPaths_21 : decode cX0_addedPaths 21 = .ok (.aload_n 0, 1) := by decide +kernel
theorem dX0_addedPaths_22 : decode cX0_addedPaths 22 = .ok (.getfield 33, 3) := by decide +kernel
theorem dX0_addedPaths_25 : decode cX0_addedPaths 25 = .ok (.iload_n 2, 1) := by decide +kernel
theorem dX0_addedPaths_26 : decode cX0_addedPaths 26 = .ok (.invokestatic 56, 3) := by decide +kernel
theorem dX0_addedPaths_29 : decode cX0_addedPaths 29 = .ok (.iadd, 1) := by decide +kernel
theorem dX0_addedPaths_30 : decode cX0_addedPaths 30 = .ok (.istore_n 1, 1) := by decide +kernel
theorem dX0_addedPaths_31 : decode cX0_addedPaths 31 = .ok (.iinc 2 1, 3) := by decide +kernel
theorem dX0_addedPaths_34 : decode cX0_addedPaths 34 = .ok (.goto (-30), 3) := by decide +kernel
theorem dX0_addedPaths_37 : decode cX0_addedPaths 37 = .ok (.iload_n 1, 1) := by decide +kernel
theorem dX0_addedPaths_38 : decode cX0_addedPaths 38 = .ok (.ireturn, 1) := by decide +kernel
theorem dX0_bestGivenUp_0 : decode cX0_bestGivenUp 0 = .ok (.iconst (-1), 1) := by decide +kernel
theorem dX0_bestGivenUp_1 : decode cX0_bestGivenUp 1 = .ok (.istore_n 1, 1) := by decide +kernel
theorem dX0_bestGivenUp_2 : decode cX0_bestGivenUp 2 = .ok (.iconst (-1), 1) := by decide +kernel
theorem dX0_bestGivenUp_3 : decode cX0_bestGivenUp 3 = .ok (.istore_n 2, 1) := by decide +kernel
theorem dX0_bestGivenUp_4 : decode cX0_bestGivenUp 4 = .ok (.iconst 0, 1) := by decide +kernel
theorem dX0_bestGivenUp_5 : decode cX0_bestGivenUp 5 = .ok (.istore_n 3, 1) := by decide +kernel
theorem dX0_bestGivenUp_6 : decode cX0_bestGivenUp 6 = .ok (.iload_n 3, 1) := by decide +kernel
theorem dX0_bestGivenUp_7 : decode cX0_bestGivenUp 7 = .ok (.aload_n 0, 1) := by decide +kernel
theorem dX0_bestGivenUp_8 : decode cX0_bestGivenUp 8 = .ok (.getfield 39, 3) := by decide +kernel
theorem dX0_bestGivenUp_11 : decode cX0_bestGivenUp 11 = .ok (.if_icmp .ge 54, 3) := by decide +kernel
theorem dX0_bestGivenUp_14 : decode cX0_bestGivenUp 14 = .ok (.aload_n 0, 1) := by decide +kernel
theorem dX0_bestGivenUp_15 : decode cX0_bestGivenUp 15 = .ok (.getfield 33, 3) := by decide +kernel
theorem dX0_bestGivenUp_18 : decode cX0_bestGivenUp 18 = .ok (.iload_n 3, 1) := by decide +kernel
theorem dX0_bestGivenUp_19 : decode cX0_bestGivenUp 19 = .ok (.invokestatic 56, 3) := by decide +kernel
theorem dX0_bestGivenUp_22 : decode cX0_bestGivenUp 22 = .ok (.aload_n 0, 1) := by decide +kernel
theorem dX0_bestGivenUp_23 : decode cX0_bestGivenUp 23 = .ok (.getfield 36, 3) := by decide +kernel
theorem dX0_bestGivenUp_26 : decode cX0_bestGivenUp 26 = .ok (.iload_n 3, 1) := by decide +kernel
theorem dX0_bestGivenUp_27 : decode cX0_bestGivenUp 27 = .ok (.invokestatic 56, 3) := by decide +kernel
theorem dX0_bestGivenUp_30 : decode cX0_bestGivenUp 30 = .ok (.iadd, 1) := by decide +kernel
theorem dX0_bestGivenUp_31 : decode cX0_bestGivenUp 31 = .ok (.istore 4, 2) := by decide +kernel
theorem dX0_bestGivenUp_33 : decode cX0_bestGivenUp 33 = .ok (.aload_n 0, 1) := by decide +kernel
theorem dX0_bestGivenUp_34 : decode cX0_bestGivenUp 34 = .ok (.iload_n 3, 1) := by decide +kernel
theorem dX0_bestGivenUp_35 : decode cX0_bestGivenUp 35 = .ok (.invokevirtual 68, 3) := by decide +kernel
theorem dX0_bestGivenUp_38 : decode cX0_bestGivenUp 38 = .ok (.ifCond .ne 21, 3) := by decide +kernel
theorem dX0_bestGivenUp_41 : decode cX0_bestGivenUp 41 = .ok (.iload 4, 2) := by decide +kernel
theorem dX0_bestGivenUp_43 : decode cX0_bestGivenUp 43 = .ok (.iload_n 2, 1) := by decide +kernel
theorem dX0_bestGivenUp_44 : decode cX0_bestGivenUp 44 = .ok (.if_icmp .le 15, 3) := by decide +kernel
theorem dX0_bestGivenUp_47 : decode cX0_bestGivenUp 47 = .ok (.iload 4, 2) := by decide +kernel
theorem dX0_bestGivenUp_49 : decode cX0_bestGivenUp 49 = .ok (.istore_n 2, 1) := by decide +kernel
theorem dX0_bestGivenUp_50 : decode cX0_bestGivenUp 50 = .ok (.aload_n 0, 1) := by decide +kernel
theorem dX0_bestGivenUp_51 : decode cX0_bestGivenUp 51 = .ok (.getfield 21, 3) := by decide +kernel
theorem dX0_bestGivenUp_54 : decode cX0_bestGivenUp 54 = .ok (.iload_n 3, 1) := by decide +kernel
theorem dX0_bestGivenUp_55 : decode cX0_bestGivenUp 55 = .ok (.invokestatic 56, 3) := by decide +kernel
theorem dX0_bestGivenUp_58 : decode cX0_bestGivenUp 58 = .ok (.istore_n 1, 1) := by decide +kernel
theorem dX0_bestGivenUp_59 : decode cX0_bestGivenUp 59 = .ok (.iinc 3 1, 3) := by decide +kernel
theorem dX0_bestGivenUp_62 : decode cX0_bestGivenUp 62 = .ok (.goto (-56), 3) := by decide +kernel
theorem dX0_bestGivenUp_65 : decode cX0_bestGivenUp 65 = .ok (.iload_n 1, 1) := by decide +kernel
theorem dX0_bestGivenUp_66 : decode cX0_bestGivenUp 66 = .ok (.ireturn, 1) := by decide +kernel
theorem dX0_isPost_0 : decode cX0_isPost 0 = .ok (.aload_n 0, 1) := by decide +kernel
theorem dX0_isPost_1 : decode cX0_isPost 1 = .ok (.getfield 9, 3) := by decide +kernel
theorem dX0_isPost_4 : decode cX0_isPost 4 = .ok (.iload_n 1, 1) := by decide +kernel
theorem dX0_isPost_5 : decode cX0_isPost 5 = .ok (.invokestatic 56, 3) := by decide +kernel
theorem dX0_isPost_8 : decode cX0_isPost 8 = .ok (.iconst (-1), 1) := by decide +kernel
theorem dX0_isPost_9 : decode cX0_isPost 9 = .ok (.if_icmp .eq 7, 3) := by decide +kernel
theorem dX0_isPost_12 : decode cX0_isPost 12 = .ok (.iconst 1, 1) := by decide +kernel
theorem dX0_isPost_13 : decode cX0_isPost 13 = .ok (.goto 4, 3) := by decide +kernel
theorem dX0_isPost_16 : decode cX0_isPost 16 = .ok (.iconst 0, 1) := by decide +kernel
theorem dX0_isPost_17 : decode cX0_isPost 17 = .ok (.ireturn, 1) := by decide +kernel
theorem dX0_placeBy_0 : decode cX0_placeBy 0 = .ok (.iconst 0, 1) := by decide +kernel
theorem dX0_placeBy_1 : decode cX0_placeBy 1 = .ok (.istore_n 2, 1) := by decide +kernel
theorem dX0_placeBy_2 : decode cX0_placeBy 2 = .ok (.iconst 0, 1) := by decide +kernel
theorem dX0_placeBy_3 : decode cX0_placeBy 3 = .ok (.istore_n 3, 1) := by decide +kernel
theorem dX0_placeBy_4 : decode cX0_placeBy 4 = .ok (.iload_n 3, 1) := by decide +kernel
theorem dX0_placeBy_5 : decode cX0_placeBy 5 = .ok (.bipush 16, 2) := by decide +kernel
theorem dX0_placeBy_7 : decode cX0_placeBy 7 = .ok (.if_icmp .ge 56, 3) := by decide +kernel
theorem dX0_placeBy_10 : decode cX0_placeBy 10 = .ok (.aload_n 0, 1) := by decide +kernel
theorem dX0_placeBy_11 : decode cX0_placeBy 11 = .ok (.iload_n 2, 1) := by decide +kernel
theorem dX0_placeBy_12 : decode cX0_placeBy 12 = .ok (.invokevirtual 68, 3) := by decide +kernel
theorem dX0_placeBy_15 : decode cX0_placeBy 15 = .ok (.ifCond .eq 48, 3) := by decide +kernel
theorem dX0_placeBy_18 : decode cX0_placeBy 18 = .ok (.iload_n 1, 1) := by decide +kernel
theorem dX0_placeBy_19 : decode cX0_placeBy 19 = .ok (.aload_n 0, 1) := by decide +kernel
theorem dX0_placeBy_20 : decode cX0_placeBy 20 = .ok (.getfield 9, 3) := by decide +kernel
theorem dX0_placeBy_23 : decode cX0_placeBy 23 = .ok (.iload_n 2, 1) := by decide +kernel
theorem dX0_placeBy_24 : decode cX0_placeBy 24 = .ok (.invokestatic 56, 3) := by decide +kernel
theorem dX0_placeBy_27 : decode cX0_placeBy 27 = .ok (.invokestatic 77, 3) := by decide +kernel
theorem dX0_placeBy_30 : decode cX0_placeBy 30 = .ok (.istore 4, 2) := by decide +kernel
theorem dX0_placeBy_32 : decode cX0_placeBy 32 = .ok (.iload 4, 2) := by decide +kernel
theorem dX0_placeBy_34 : decode cX0_placeBy 34 = .ok (.ifCond .eq 14, 3) := by decide +kernel
theorem dX0_placeBy_37 : decode cX0_placeBy 37 = .ok (.aload_n 0, 1) := by decide +kernel
theorem dX0_placeBy_38 : decode cX0_placeBy 38 = .ok (.getfield 30, 3) := by decide +kernel
theorem dX0_placeBy_41 : decode cX0_placeBy 41 = .ok (.iload_n 2, 1) := by decide +kernel
theorem dX0_placeBy_42 : decode cX0_placeBy 42 = .ok (.invokestatic 56, 3) := by decide +kernel
theorem dX0_placeBy_45 : decode cX0_placeBy 45 = .ok (.goto 11, 3) := by decide +kernel
theorem dX0_placeBy_48 : decode cX0_placeBy 48 = .ok (.aload_n 0, 1) := by decide +kernel
theorem dX0_placeBy_49 : decode cX0_placeBy 49 = .ok (.getfield 27, 3) := by decide +kernel
theorem dX0_placeBy_52 : decode cX0_placeBy 52 = .ok (.iload_n 2, 1) := by decide +kernel
theorem dX0_placeBy_53 : decode cX0_placeBy 53 = .ok (.invokestatic 56, 3) := by decide +kernel
theorem dX0_placeBy_56 : decode cX0_placeBy 56 = .ok (.istore_n 2, 1) := by decide +kernel
theorem dX0_placeBy_57 : decode cX0_placeBy 57 = .ok (.iinc 3 1, 3) := by decide +kernel
theorem dX0_placeBy_60 : decode cX0_placeBy 60 = .ok (.goto (-56), 3) := by decide +kernel
theorem dX0_placeBy_63 : decode cX0_placeBy 63 = .ok (.iload_n 2, 1) := by decide +kernel
theorem dX0_placeBy_64 : decode cX0_placeBy 64 = .ok (.ireturn, 1) := by decide +kernel
theorem dX0_begin_0 : decode cX0_begin 0 = .ok (.aload_n 0, 1) := by decide +kernel
theorem dX0_begin_1 : decode cX0_begin 1 = .ok (.getfield 15, 3) := by decide +kernel
theorem dX0_begin_4 : decode cX0_begin 4 = .ok (.iload_n 1, 1) := by decide +kernel
theorem dX0_begin_5 : decode cX0_begin 5 = .ok (.iload_n 2, 1) := by decide +kernel
theorem dX0_begin_6 : decode cX0_begin 6 = .ok (.invokestatic 81, 3) := by decide +kernel
theorem dX0_begin_9 : decode cX0_begin 9 = .ok (.aload_n 0, 1) := by decide +kernel
theorem dX0_begin_10 : decode cX0_begin 10 = .ok (.getfield 18, 3) := by decide +kernel
theorem dX0_begin_13 : decode cX0_begin 13 = .ok (.iload_n 1, 1) := by decide +kernel
theorem dX0_begin_14 : decode cX0_begin 14 = .ok (.iload_n 3, 1) := by decide +kernel
theorem dX0_begin_15 : decode cX0_begin 15 = .ok (.invokestatic 81, 3) := by decide +kernel
theorem dX0_begin_18 : decode cX0_begin 18 = .ok (.aload_n 0, 1) := by decide +kernel
theorem dX0_begin_19 : decode cX0_begin 19 = .ok (.getfield 33, 3) := by decide +kernel
theorem dX0_begin_22 : decode cX0_begin 22 = .ok (.iload_n 1, 1) := by decide +kernel
theorem dX0_begin_23 : decode cX0_begin 23 = .ok (.iload 4, 2) := by decide +kernel
theorem dX0_begin_25 : decode cX0_begin 25 = .ok (.invokestatic 81, 3) := by decide +kernel
theorem dX0_begin_28 : decode cX0_begin 28 = .ok (.aload_n 0, 1) := by decide +kernel
theorem dX0_begin_29 : decode cX0_begin 29 = .ok (.getfield 36, 3) := by decide +kernel
theorem dX0_begin_32 : decode cX0_begin 32 = .ok (.iload_n 1, 1) := by decide +kernel
theorem dX0_begin_33 : decode cX0_begin 33 = .ok (.iload 5, 2) := by decide +kernel
theorem dX0_begin_35 : decode cX0_begin 35 = .ok (.invokestatic 81, 3) := by decide +kernel
theorem dX0_begin_38 : decode cX0_begin 38 = .ok (.return_, 1) := by decide +kernel
theorem dX0_fillAt_0 : decode cX0_fillAt 0 = .ok (.aload_n 0, 1) := by decide +kernel
theorem dX0_fillAt_1 : decode cX0_fillAt 1 = .ok (.getfield 15, 3) := by decide +kernel
theorem dX0_fillAt_4 : decode cX0_fillAt 4 = .ok (.iload_n 1, 1) := by decide +kernel
theorem dX0_fillAt_5 : decode cX0_fillAt 5 = .ok (.invokestatic 56, 3) := by decide +kernel
theorem dX0_fillAt_8 : decode cX0_fillAt 8 = .ok (.istore_n 3, 1) := by decide +kernel
theorem dX0_fillAt_9 : decode cX0_fillAt 9 = .ok (.iload_n 3, 1) := by decide +kernel
theorem dX0_fillAt_10 : decode cX0_fillAt 10 = .ok (.aload_n 0, 1) := by decide +kernel
theorem dX0_fillAt_11 : decode cX0_fillAt 11 = .ok (.getfield 18, 3) := by decide +kernel
theorem dX0_fillAt_14 : decode cX0_fillAt 14 = .ok (.iload_n 1, 1) := by decide +kernel
theorem dX0_fillAt_15 : decode cX0_fillAt 15 = .ok (.invokestatic 56, 3) := by decide +kernel
theorem dX0_fillAt_18 : decode cX0_fillAt 18 = .ok (.iadd, 1) := by decide +kernel
theorem dX0_fillAt_19 : decode cX0_fillAt 19 = .ok (.iconst 1, 1) := by decide +kernel
theorem dX0_fillAt_20 : decode cX0_fillAt 20 = .ok (.isub, 1) := by decide +kernel
theorem dX0_fillAt_21 : decode cX0_fillAt 21 = .ok (.istore 4, 2) := by decide +kernel
theorem dX0_fillAt_23 : decode cX0_fillAt 23 = .ok (.aload_n 2, 1) := by decide +kernel
theorem dX0_fillAt_24 : decode cX0_fillAt 24 = .ok (.iload_n 3, 1) := by decide +kernel
theorem dX0_fillAt_25 : decode cX0_fillAt 25 = .ok (.invokevirtual 85, 3) := by decide +kernel
theorem dX0_fillAt_28 : decode cX0_fillAt 28 = .ok (.istore 5, 2) := by decide +kernel
theorem dX0_fillAt_30 : decode cX0_fillAt 30 = .ok (.aload_n 2, 1) := by decide +kernel
theorem dX0_fillAt_31 : decode cX0_fillAt 31 = .ok (.iload 4, 2) := by decide +kernel
theorem dX0_fillAt_33 : decode cX0_fillAt 33 = .ok (.invokevirtual 85, 3) := by decide +kernel
theorem dX0_fillAt_36 : decode cX0_fillAt 36 = .ok (.istore 6, 2) := by decide +kernel
theorem dX0_fillAt_38 : decode cX0_fillAt 38 = .ok (.aload_n 0, 1) := by decide +kernel
theorem dX0_fillAt_39 : decode cX0_fillAt 39 = .ok (.getfield 21, 3) := by decide +kernel
theorem dX0_fillAt_42 : decode cX0_fillAt 42 = .ok (.iload_n 1, 1) := by decide +kernel
theorem dX0_fillAt_43 : decode cX0_fillAt 43 = .ok (.iload 5, 2) := by decide +kernel
theorem dX0_fillAt_45 : decode cX0_fillAt 45 = .ok (.invokestatic 81, 3) := by decide +kernel
theorem dX0_fillAt_48 : decode cX0_fillAt 48 = .ok (.aload_n 0, 1) := by decide +kernel
theorem dX0_fillAt_49 : decode cX0_fillAt 49 = .ok (.getfield 24, 3) := by decide +kernel
theorem dX0_fillAt_52 : decode cX0_fillAt 52 = .ok (.iload_n 1, 1) := by decide +kernel
theorem dX0_fillAt_53 : decode cX0_fillAt 53 = .ok (.iload 6, 2) := by decide +kernel
theorem dX0_fillAt_55 : decode cX0_fillAt 55 = .ok (.invokestatic 81, 3) := by decide +kernel
theorem dX0_fillAt_58 : decode cX0_fillAt 58 = .ok (.aload_n 0, 1) := by decide +kernel
theorem dX0_fillAt_59 : decode cX0_fillAt 59 = .ok (.getfield 9, 3) := by decide +kernel
theorem dX0_fillAt_62 : decode cX0_fillAt 62 = .ok (.iload_n 1, 1) := by decide +kernel
theorem dX0_fillAt_63 : decode cX0_fillAt 63 = .ok (.iload 5, 2) := by decide +kernel
theorem dX0_fillAt_65 : decode cX0_fillAt 65 = .ok (.iload 6, 2) := by decide +kernel
theorem dX0_fillAt_67 : decode cX0_fillAt 67 = .ok (.invokestatic 64, 3) := by decide +kernel
theorem dX0_fillAt_70 : decode cX0_fillAt 70 = .ok (.invokestatic 81, 3) := by decide +kernel
theorem dX0_fillAt_73 : decode cX0_fillAt 73 = .ok (.aload_n 0, 1) := by decide +kernel
theorem dX0_fillAt_74 : decode cX0_fillAt 74 = .ok (.getfield 27, 3) := by decide +kernel
theorem dX0_fillAt_77 : decode cX0_fillAt 77 = .ok (.iload_n 1, 1) := by decide +kernel
theorem dX0_fillAt_78 : decode cX0_fillAt 78 = .ok (.iconst (-1), 1) := by decide +kernel
theorem dX0_fillAt_79 : decode cX0_fillAt 79 = .ok (.invokestatic 81, 3) := by decide +kernel
theorem dX0_fillAt_82 : decode cX0_fillAt 82 = .ok (.aload_n 0, 1) := by decide +kernel
theorem dX0_fillAt_83 : decode cX0_fillAt 83 = .ok (.getfield 30, 3) := by decide +kernel
theorem dX0_fillAt_86 : decode cX0_fillAt 86 = .ok (.iload_n 1, 1) := by decide +kernel
theorem dX0_fillAt_87 : decode cX0_fillAt 87 = .ok (.iconst (-1), 1) := by decide +kernel
theorem dX0_fillAt_88 : decode cX0_fillAt 88 = .ok (.invokestatic 81, 3) := by decide +kernel
theorem dX0_fillAt_91 : decode cX0_fillAt 91 = .ok (.iload_n 3, 1) := by decide +kernel
theorem dX0_fillAt_92 : decode cX0_fillAt 92 = .ok (.iload 4, 2) := by decide +kernel
theorem dX0_fillAt_94 : decode cX0_fillAt 94 = .ok (.if_icmp .ge 9, 3) := by decide +kernel
theorem dX0_fillAt_97 : decode cX0_fillAt 97 = .ok (.aload_n 0, 1) := by decide +kernel
theorem dX0_fillAt_98 : decode cX0_fillAt 98 = .ok (.iload_n 1, 1) := by decide +kernel
theorem dX0_fillAt_99 : decode cX0_fillAt 99 = .ok (.aload_n 2, 1) := by decide +kernel
theorem dX0_fillAt_100 : decode cX0_fillAt 100 = .ok (.invokevirtual 88, 3) := by decide +kernel
theorem dX0_fillAt_103 : decode cX0_fillAt 103 = .ok (.return_, 1) := by decide +kernel
theorem dX0_fillSides_0 : decode cX0_fillSides 0 = .ok (.aload_n 0, 1) := by decide +kernel
theorem dX0_fillSides_1 : decode cX0_fillSides 1 = .ok (.getfield 15, 3) := by decide +kernel
theorem dX0_fillSides_4 : decode cX0_fillSides 4 = .ok (.iload_n 1, 1) := by decide +kernel
theorem dX0_fillSides_5 : decode cX0_fillSides 5 = .ok (.invokestatic 56, 3) := by decide +kernel
theorem dX0_fillSides_8 : decode cX0_fillSides 8 = .ok (.istore_n 3, 1) := by decide +kernel
theorem dX0_fillSides_9 : decode cX0_fillSides 9 = .ok (.iload_n 3, 1) := by decide +kernel
theorem dX0_fillSides_10 : decode cX0_fillSides 10 = .ok (.aload_n 0, 1) := by decide +kernel
theorem dX0_fillSides_11 : decode cX0_fillSides 11 = .ok (.getfield 18, 3) := by decide +kernel
theorem dX0_fillSides_14 : decode cX0_fillSides 14 = .ok (.iload_n 1, 1) := by decide +kernel
theorem dX0_fillSides_15 : decode cX0_fillSides 15 = .ok (.invokestatic 56, 3) := by decide +kernel
theorem dX0_fillSides_18 : decode cX0_fillSides 18 = .ok (.iadd, 1) := by decide +kernel
theorem dX0_fillSides_19 : decode cX0_fillSides 19 = .ok (.istore 4, 2) := by decide +kernel
theorem dX0_fillSides_21 : decode cX0_fillSides 21 = .ok (.iload_n 3, 1) := by decide +kernel
theorem dX0_fillSides_22 : decode cX0_fillSides 22 = .ok (.istore 5, 2) := by decide +kernel
theorem dX0_fillSides_24 : decode cX0_fillSides 24 = .ok (.iload 5, 2) := by decide +kernel
theorem dX0_fillSides_26 : decode cX0_fillSides 26 = .ok (.iload 4, 2) := by decide +kernel
theorem dX0_fillSides_28 : decode cX0_fillSides 28 = .ok (.if_icmp .ge 29, 3) := by decide +kernel
theorem dX0_fillSides_31 : decode cX0_fillSides 31 = .ok (.aload_n 2, 1) := by decide +kernel
theorem dX0_fillSides_32 : decode cX0_fillSides 32 = .ok (.iload 5, 2) := by decide +kernel
theorem dX0_fillSides_34 : decode cX0_fillSides 34 = .ok (.invokevirtual 85, 3) := by decide +kernel
theorem dX0_fillSides_37 : decode cX0_fillSides 37 = .ok (.aload_n 0, 1) := by decide +kernel
theorem dX0_fillSides_38 : decode cX0_fillSides 38 = .ok (.getfield 9, 3) := by decide +kernel
theorem dX0_fillSides_41 : decode cX0_fillSides 41 = .ok (.iload_n 1, 1) := by decide +kernel
theorem dX0_fillSides_42 : decode cX0_fillSides 42 = .ok (.invokestatic 56, 3) := by decide +kernel
theorem dX0_fillSides_45 : decode cX0_fillSides 45 = .ok (.invokestatic 77, 3) := by decide +kernel
theorem dX0_fillSides_48 : decode cX0_fillSides 48 = .ok (.ifCond .ne 9, 3) := by decide +kernel
theorem dX0_fillSides_51 : decode cX0_fillSides 51 = .ok (.iinc 5 1, 3) := by decide +kernel
theorem dX0_fillSides_54 : decode cX0_fillSides 54 = .ok (.goto (-30), 3) := by decide +kernel
theorem dX0_fillSides_57 : decode cX0_fillSides 57 = .ok (.aload_n 0, 1) := by decide +kernel
theorem dX0_fillSides_58 : decode cX0_fillSides 58 = .ok (.getfield 33, 3) := by decide +kernel
theorem dX0_fillSides_61 : decode cX0_fillSides 61 = .ok (.iload_n 1, 1) := by decide +kernel
theorem dX0_fillSides_62 : decode cX0_fillSides 62 = .ok (.invokestatic 56, 3) := by decide +kernel
theorem dX0_fillSides_65 : decode cX0_fillSides 65 = .ok (.iconst 1, 1) := by decide +kernel
theorem dX0_fillSides_66 : decode cX0_fillSides 66 = .ok (.iadd, 1) := by decide +kernel
theorem dX0_fillSides_67 : decode cX0_fillSides 67 = .ok (.istore 6, 2) := by decide +kernel
theorem dX0_fillSides_69 : decode cX0_fillSides 69 = .ok (.iload_n 1, 1) := by decide +kernel
theorem dX0_fillSides_70 : decode cX0_fillSides 70 = .ok (.iconst 2, 1) := by decide +kernel
theorem dX0_fillSides_71 : decode cX0_fillSides 71 = .ok (.iload 5, 2) := by decide +kernel
theorem dX0_fillSides_73 : decode cX0_fillSides 73 = .ok (.iload_n 3, 1) := by decide +kernel
theorem dX0_fillSides_74 : decode cX0_fillSides 74 = .ok (.isub, 1) := by decide +kernel
theorem dX0_fillSides_75 : decode cX0_fillSides 75 = .ok (.imul, 1) := by decide +kernel
theorem dX0_fillSides_76 : decode cX0_fillSides 76 = .ok (.iadd, 1) := by decide +kernel
theorem dX0_fillSides_77 : decode cX0_fillSides 77 = .ok (.istore 7, 2) := by decide +kernel
theorem dX0_fillSides_79 : decode cX0_fillSides 79 = .ok (.aload_n 0, 1) := by decide +kernel
theorem dX0_fillSides_80 : decode cX0_fillSides 80 = .ok (.getfield 27, 3) := by decide +kernel
theorem dX0_fillSides_83 : decode cX0_fillSides 83 = .ok (.iload_n 1, 1) := by decide +kernel
theorem dX0_fillSides_84 : decode cX0_fillSides 84 = .ok (.iload_n 1, 1) := by decide +kernel
theorem dX0_fillSides_85 : decode cX0_fillSides 85 = .ok (.iconst 1, 1) := by decide +kernel
theorem dX0_fillSides_86 : decode cX0_fillSides 86 = .ok (.iadd, 1) := by decide +kernel
theorem dX0_fillSides_87 : decode cX0_fillSides 87 = .ok (.invokestatic 81, 3) := by decide +kernel
theorem dX0_fillSides_90 : decode cX0_fillSides 90 = .ok (.aload_n 0, 1) := by decide +kernel
theorem dX0_fillSides_91 : decode cX0_fillSides 91 = .ok (.getfield 30, 3) := by decide +kernel
theorem dX0_fillSides_94 : decode cX0_fillSides 94 = .ok (.iload_n 1, 1) := by decide +kernel
theorem dX0_fillSides_95 : decode cX0_fillSides 95 = .ok (.iload 7, 2) := by decide +kernel
theorem dX0_fillSides_97 : decode cX0_fillSides 97 = .ok (.invokestatic 81, 3) := by decide +kernel
theorem dX0_fillSides_100 : decode cX0_fillSides 100 = .ok (.aload_n 0, 1) := by decide +kernel
theorem dX0_fillSides_101 : decode cX0_fillSides 101 = .ok (.iload_n 1, 1) := by decide +kernel
theorem dX0_fillSides_102 : decode cX0_fillSides 102 = .ok (.iconst 1, 1) := by decide +kernel
theorem dX0_fillSides_103 : decode cX0_fillSides 103 = .ok (.iadd, 1) := by decide +kernel
theorem dX0_fillSides_104 : decode cX0_fillSides 104 = .ok (.iload_n 3, 1) := by decide +kernel
theorem dX0_fillSides_105 : decode cX0_fillSides 105 = .ok (.iload 5, 2) := by decide +kernel
theorem dX0_fillSides_107 : decode cX0_fillSides 107 = .ok (.iload_n 3, 1) := by decide +kernel
theorem dX0_fillSides_108 : decode cX0_fillSides 108 = .ok (.isub, 1) := by decide +kernel
theorem dX0_fillSides_109 : decode cX0_fillSides 109 = .ok (.iload 6, 2) := by decide +kernel
theorem dX0_fillSides_111 : decode cX0_fillSides 111 = .ok (.iload 4, 2) := by decide +kernel
theorem dX0_fillSides_113 : decode cX0_fillSides 113 = .ok (.iload 5, 2) := by decide +kernel
theorem dX0_fillSides_115 : decode cX0_fillSides 115 = .ok (.isub, 1) := by decide +kernel
theorem dX0_fillSides_116 : decode cX0_fillSides 116 = .ok (.invokevirtual 48, 3) := by decide +kernel
theorem dX0_fillSides_119 : decode cX0_fillSides 119 = .ok (.aload_n 0, 1) := by decide +kernel
theorem dX0_fillSides_120 : decode cX0_fillSides 120 = .ok (.iload 7, 2) := by decide +kernel
theorem dX0_fillSides_122 : decode cX0_fillSides 122 = .ok (.iload 5, 2) := by decide +kernel
theorem dX0_fillSides_124 : decode cX0_fillSides 124 = .ok (.iload 4, 2) := by decide +kernel
theorem dX0_fillSides_126 : decode cX0_fillSides 126 = .ok (.iload 5, 2) := by decide +kernel
theorem dX0_fillSides_128 : decode cX0_fillSides 128 = .ok (.isub, 1) := by decide +kernel
theorem dX0_fillSides_129 : decode cX0_fillSides 129 = .ok (.iload 6, 2) := by decide +kernel
theorem dX0_fillSides_131 : decode cX0_fillSides 131 = .ok (.iload 5, 2) := by decide +kernel
theorem dX0_fillSides_133 : decode cX0_fillSides 133 = .ok (.iload_n 3, 1) := by decide +kernel
theorem dX0_fillSides_134 : decode cX0_fillSides 134 = .ok (.isub, 1) := by decide +kernel
theorem dX0_fillSides_135 : decode cX0_fillSides 135 = .ok (.invokevirtual 48, 3) := by decide +kernel
theorem dX0_fillSides_138 : decode cX0_fillSides 138 = .ok (.return_, 1) := by decide +kernel
theorem dX1_init_0 : decode cX1_init 0 = .ok (.aload_n 0, 1) := by decide +kernel
theorem dX1_init_1 : decode cX1_init 1 = .ok (.invokespecial 3, 3) := by decide +kernel
theorem dX1_init_4 : decode cX1_init 4 = .ok (.aload_n 0, 1) := by decide +kernel
theorem dX1_init_5 : decode cX1_init 5 = .ok (.bipush 48, 2) := by decide +kernel
theorem dX1_init_7 : decode cX1_init 7 = .ok (.newarray .int, 2) := by decide +kernel
theorem dX1_init_9 : decode cX1_init 9 = .ok (.putfield 9, 3) := by decide +kernel
theorem dX1_init_12 : decode cX1_init 12 = .ok (.aload_n 0, 1) := by decide +kernel
theorem dX1_init_13 : decode cX1_init 13 = .ok (.bipush 48, 2) := by decide +kernel
theorem dX1_init_15 : decode cX1_init 15 = .ok (.newarray .int, 2) := by decide +kernel
theorem dX1_init_17 : decode cX1_init 17 = .ok (.putfield 15, 3) := by decide +kernel
theorem dX1_init_20 : decode cX1_init 20 = .ok (.return_, 1) := by decide +kernel
theorem dX1_size_0 : decode cX1_size 0 = .ok (.aload_n 0, 1) := by decide +kernel
theorem dX1_size_1 : decode cX1_size 1 = .ok (.getfield 18, 3) := by decide +kernel
theorem dX1_size_4 : decode cX1_size 4 = .ok (.ireturn, 1) := by decide +kernel
theorem dX1_nameAt_0 : decode cX1_nameAt 0 = .ok (.iload_n 1, 1) := by decide +kernel
theorem dX1_nameAt_1 : decode cX1_nameAt 1 = .ok (.aload_n 0, 1) := by decide +kernel
theorem dX1_nameAt_2 : decode cX1_nameAt 2 = .ok (.getfield 18, 3) := by decide +kernel
theorem dX1_nameAt_5 : decode cX1_nameAt 5 = .ok (.if_icmp .ge 14, 3) := by decide +kernel
theorem dX1_nameAt_8 : decode cX1_nameAt 8 = .ok (.aload_n 0, 1) := by decide +kernel
theorem dX1_nameAt_9 : decode cX1_nameAt 9 = .ok (.getfield 9, 3) := by decide +kernel
theorem dX1_nameAt_12 : decode cX1_nameAt 12 = .ok (.iload_n 1, 1) := by decide +kernel
theorem dX1_nameAt_13 : decode cX1_nameAt 13 = .ok (.invokestatic 22, 3) := by decide +kernel
theorem dX1_nameAt_16 : decode cX1_nameAt 16 = .ok (.goto 4, 3) := by decide +kernel
theorem dX1_nameAt_19 : decode cX1_nameAt 19 = .ok (.iconst (-1), 1) := by decide +kernel
theorem dX1_nameAt_20 : decode cX1_nameAt 20 = .ok (.ireturn, 1) := by decide +kernel
theorem dX1_milesAt_0 : decode cX1_milesAt 0 = .ok (.iload_n 1, 1) := by decide +kernel
theorem dX1_milesAt_1 : decode cX1_milesAt 1 = .ok (.aload_n 0, 1) := by decide +kernel
theorem dX1_milesAt_2 : decode cX1_milesAt 2 = .ok (.getfield 18, 3) := by decide +kernel
theorem dX1_milesAt_5 : decode cX1_milesAt 5 = .ok (.if_icmp .ge 14, 3) := by decide +kernel
theorem dX1_milesAt_8 : decode cX1_milesAt 8 = .ok (.aload_n 0, 1) := by decide +kernel
theorem dX1_milesAt_9 : decode cX1_milesAt 9 = .ok (.getfield 15, 3) := by decide +kernel
theorem dX1_milesAt_12 : decode cX1_milesAt 12 = .ok (.iload_n 1, 1) := by decide +kernel
theorem dX1_milesAt_13 : decode cX1_milesAt 13 = .ok (.invokestatic 22, 3) := by decide +kernel
theorem dX1_milesAt_16 : decode cX1_milesAt 16 = .ok (.goto 4, 3) := by decide +kernel
theorem dX1_milesAt_19 : decode cX1_milesAt 19 = .ok (.iconst (-1), 1) := by decide +kernel
theorem dX1_milesAt_20 : decode cX1_milesAt 20 = .ok (.ireturn, 1) := by decide +kernel
theorem dX1_milesOf_0 : decode cX1_milesOf 0 = .ok (.aload_n 0, 1) := by decide +kernel
theorem dX1_milesOf_1 : decode cX1_milesOf 1 = .ok (.iload_n 1, 1) := by decide +kernel
theorem dX1_milesOf_2 : decode cX1_milesOf 2 = .ok (.invokevirtual 26, 3) := by decide +kernel
theorem dX1_milesOf_5 : decode cX1_milesOf 5 = .ok (.istore_n 2, 1) := by decide +kernel
theorem dX1_milesOf_6 : decode cX1_milesOf 6 = .ok (.aload_n 0, 1) := by decide +kernel
theorem dX1_milesOf_7 : decode cX1_milesOf 7 = .ok (.iload_n 2, 1) := by decide +kernel
theorem dX1_milesOf_8 : decode cX1_milesOf 8 = .ok (.invokevirtual 30, 3) := by decide +kernel
theorem dX1_milesOf_11 : decode cX1_milesOf 11 = .ok (.iload_n 1, 1) := by decide +kernel
theorem dX1_milesOf_12 : decode cX1_milesOf 12 = .ok (.if_icmp .ne 11, 3) := by decide +kernel
theorem dX1_milesOf_15 : decode cX1_milesOf 15 = .ok (.aload_n 0, 1) := by decide +kernel
theorem dX1_milesOf_16 : decode cX1_milesOf 16 = .ok (.iload_n 2, 1) := by decide +kernel
theorem dX1_milesOf_17 : decode cX1_milesOf 17 = .ok (.invokevirtual 33, 3) := by decide +kernel
theorem dX1_milesOf_20 : decode cX1_milesOf 20 = .ok (.goto 4, 3) := by decide +kernel
theorem dX1_milesOf_23 : decode cX1_milesOf 23 = .ok (.iconst (-1), 1) := by decide +kernel
theorem dX1_milesOf_24 : decode cX1_milesOf 24 = .ok (.ireturn, 1) := by decide +kernel
theorem dX1_smallerThan_0 : decode cX1_smallerThan 0 = .ok (.iconst 0, 1) := by decide +kernel
theorem dX1_smallerThan_1 : decode cX1_smallerThan 1 = .ok (.istore_n 2, 1) := by decide +kernel
theorem dX1_smallerThan_2 : decode cX1_smallerThan 2 = .ok (.iload_n 2, 1) := by decide +kernel
theorem dX1_smallerThan_3 : decode cX1_smallerThan 3 = .ok (.aload_n 0, 1) := by decide +kernel
theorem dX1_smallerThan_4 : decode cX1_smallerThan 4 = .ok (.getfield 18, 3) := by decide +kernel
theorem dX1_smallerThan_7 : decode cX1_smallerThan 7 = .ok (.if_icmp .ge 21, 3) := by decide +kernel
theorem dX1_smallerThan_10 : decode cX1_smallerThan 10 = .ok (.aload_n 0, 1) := by decide +kernel
theorem dX1_smallerThan_11 : decode cX1_smallerThan 11 = .ok (.getfield 9, 3) := by decide +kernel
theorem dX1_smallerThan_14 : decode cX1_smallerThan 14 = .ok (.iload_n 2, 1) := by decide +kernel
theorem dX1_smallerThan_15 : decode cX1_smallerThan 15 = .ok (.invokestatic 22, 3) := by decide +kernel
theorem dX1_smallerThan_18 : decode cX1_smallerThan 18 = .ok (.iload_n 1, 1) := by decide +kernel
theorem dX1_smallerThan_19 : decode cX1_smallerThan 19 = .ok (.if_icmp .ge 9, 3) := by decide +kernel
theorem dX1_smallerThan_22 : decode cX1_smallerThan 22 = .ok (.iinc 2 1, 3) := by decide +kernel
theorem dX1_smallerThan_25 : decode cX1_smallerThan 25 = .ok (.goto (-23), 3) := by decide +kernel
theorem dX1_smallerThan_28 : decode cX1_smallerThan 28 = .ok (.iload_n 2, 1) := by decide +kernel
theorem dX1_smallerThan_29 : decode cX1_smallerThan 29 = .ok (.ireturn, 1) := by decide +kernel
theorem dX1_namesAlsoIn_0 : decode cX1_namesAlsoIn 0 = .ok (.iconst 0, 1) := by decide +kernel
theorem dX1_namesAlsoIn_1 : decode cX1_namesAlsoIn 1 = .ok (.istore_n 2, 1) := by decide +kernel
theorem dX1_namesAlsoIn_2 : decode cX1_namesAlsoIn 2 = .ok (.iconst 0, 1) := by decide +kernel
theorem dX1_namesAlsoIn_3 : decode cX1_namesAlsoIn 3 = .ok (.istore_n 3, 1) := by decide +kernel
theorem dX1_namesAlsoIn_4 : decode cX1_namesAlsoIn 4 = .ok (.iload_n 3, 1) := by decide +kernel
theorem dX1_namesAlsoIn_5 : decode cX1_namesAlsoIn 5 = .ok (.aload_n 0, 1) := by decide +kernel
theorem dX1_namesAlsoIn_6 : decode cX1_namesAlsoIn 6 = .ok (.getfield 18, 3) := by decide +kernel
theorem dX1_namesAlsoIn_9 : decode cX1_namesAlsoIn 9 = .ok (.if_icmp .ge 25, 3) := by decide +kernel
theorem dX1_namesAlsoIn_12 : decode cX1_namesAlsoIn 12 = .ok (.aload_n 1, 1) := by decide +kernel
theorem dX1_namesAlsoIn_13 : decode cX1_namesAlsoIn 13 = .ok (.aload_n 0, 1) := by decide +kernel
theorem dX1_namesAlsoIn_14 : decode cX1_namesAlsoIn 14 = .ok (.iload_n 3, 1) := by decide +kernel
theorem dX1_namesAlsoIn_15 : decode cX1_namesAlsoIn 15 = .ok (.invokevirtual 30, 3) := by decide +kernel
theorem dX1_namesAlsoIn_18 : decode cX1_namesAlsoIn 18 = .ok (.invokevirtual 36, 3) := by decide +kernel
theorem dX1_namesAlsoIn_21 : decode cX1_namesAlsoIn 21 = .ok (.iconst (-1), 1) := by decide +kernel
theorem dX1_namesAlsoIn_22 : decode cX1_namesAlsoIn 22 = .ok (.if_icmp .eq 6, 3) := by decide +kernel
theorem dX1_namesAlsoIn_25 : decode cX1_namesAlsoIn 25 = .ok (.iinc 2 1, 3) := by decide +kernel
theorem dX1_namesAlsoIn_28 : decode cX1_namesAlsoIn 28 = .ok (.iinc 3 1, 3) := by decide +kernel
theorem dX1_namesAlsoIn_31 : decode cX1_namesAlsoIn 31 = .ok (.goto (-27), 3) := by decide +kernel
theorem dX1_namesAlsoIn_34 : decode cX1_namesAlsoIn 34 = .ok (.iload_n 2, 1) := by decide +kernel
theorem dX1_namesAlsoIn_35 : decode cX1_namesAlsoIn 35 = .ok (.ireturn, 1) := by decide +kernel
theorem dX1_set_0 : decode cX1_set 0 = .ok (.aload_n 0, 1) := by decide +kernel
theorem dX1_set_1 : decode cX1_set 1 = .ok (.iload_n 1, 1) := by decide +kernel
theorem dX1_set_2 : decode cX1_set 2 = .ok (.invokevirtual 26, 3) := by decide +kernel
theorem dX1_set_5 : decode cX1_set 5 = .ok (.istore_n 3, 1) := by decide +kernel
theorem dX1_set_6 : decode cX1_set 6 = .ok (.aload_n 0, 1) := by decide +kernel
theorem dX1_set_7 : decode cX1_set 7 = .ok (.iload_n 3, 1) := by decide +kernel
theorem dX1_set_8 : decode cX1_set 8 = .ok (.invokevirtual 30, 3) := by decide +kernel
theorem dX1_set_11 : decode cX1_set 11 = .ok (.iload_n 1, 1) := by decide +kernel
theorem dX1_set_12 : decode cX1_set 12 = .ok (.if_icmp .eq 8, 3) := by decide +kernel
theorem dX1_set_15 : decode cX1_set 15 = .ok (.aload_n 0, 1) := by decide +kernel
theorem dX1_set_16 : decode cX1_set 16 = .ok (.iload_n 3, 1) := by decide +kernel
theorem dX1_set_17 : decode cX1_set 17 = .ok (.invokevirtual 39, 3) := by decide +kernel
theorem dX1_set_20 : decode cX1_set 20 = .ok (.aload_n 0, 1) := by decide +kernel
theorem dX1_set_21 : decode cX1_set 21 = .ok (.getfield 9, 3) := by decide +kernel
theorem dX1_set_24 : decode cX1_set 24 = .ok (.iload_n 3, 1) := by decide +kernel
theorem dX1_set_25 : decode cX1_set 25 = .ok (.iload_n 1, 1) := by decide +kernel
theorem dX1_set_26 : decode cX1_set 26 = .ok (.invokestatic 43, 3) := by decide +kernel
theorem dX1_set_29 : decode cX1_set 29 = .ok (.aload_n 0, 1) := by decide +kernel
theorem dX1_set_30 : decode cX1_set 30 = .ok (.getfield 15, 3) := by decide +kernel
theorem dX1_set_33 : decode cX1_set 33 = .ok (.iload_n 3, 1) := by decide +kernel
theorem dX1_set_34 : decode cX1_set 34 = .ok (.iload_n 2, 1) := by decide +kernel
theorem dX1_set_35 : decode cX1_set 35 = .ok (.invokestatic 43, 3) := by decide +kernel
theorem dX1_set_38 : decode cX1_set 38 = .ok (.return_, 1) := by decide +kernel
theorem dX1_setAll_0 : decode cX1_setAll 0 = .ok (.iconst 0, 1) := by decide +kernel
theorem dX1_setAll_1 : decode cX1_setAll 1 = .ok (.istore_n 2, 1) := by decide +kernel
theorem dX1_setAll_2 : decode cX1_setAll 2 = .ok (.iload_n 2, 1) := by decide +kernel
theorem dX1_setAll_3 : decode cX1_setAll 3 = .ok (.aload_n 1, 1) := by decide +kernel
theorem dX1_setAll_4 : decode cX1_setAll 4 = .ok (.invokevirtual 47, 3) := by decide +kernel
theorem dX1_setAll_7 : decode cX1_setAll 7 = .ok (.if_icmp .ge 23, 3) := by decide +kernel
theorem dX1_setAll_10 : decode cX1_setAll 10 = .ok (.aload_n 0, 1) := by decide +kernel
theorem dX1_setAll_11 : decode cX1_setAll 11 = .ok (.aload_n 1, 1) := by decide +kernel
theorem dX1_setAll_12 : decode cX1_setAll 12 = .ok (.iload_n 2, 1) := by decide +kernel
theorem dX1_setAll_13 : decode cX1_setAll 13 = .ok (.invokevirtual 30, 3) := by decide +kernel
theorem dX1_setAll_16 : decode cX1_setAll 16 = .ok (.aload_n 1, 1) := by decide +kernel
theorem dX1_setAll_17 : decode cX1_setAll 17 = .ok (.iload_n 2, 1) := by decide +kernel
theorem dX1_setAll_18 : decode cX1_setAll 18 = .ok (.invokevirtual 33, 3) := by decide +kernel
theorem dX1_setAll_21 : decode cX1_setAll 21 = .ok (.invokevirtual 50, 3) := by decide +kernel
theorem dX1_setAll_24 : decode cX1_setAll 24 = .ok (.iinc 2 1, 3) := by decide +kernel
theorem dX1_setAll_27 : decode cX1_setAll 27 = .ok (.goto (-25), 3) := by decide +kernel
theorem dX1_setAll_30 : decode cX1_setAll 30 = .ok (.return_, 1) := by decide +kernel
theorem dX1_removeName_0 : decode cX1_removeName 0 = .ok (.aload_n 0, 1) := by decide +kernel
theorem dX1_removeName_1 : decode cX1_removeName 1 = .ok (.iload_n 1, 1) := by decide +kernel
theorem dX1_removeName_2 : decode cX1_removeName 2 = .ok (.invokevirtual 26, 3) := by decide +kernel
theorem dX1_removeName_5 : decode cX1_removeName 5 = .ok (.istore_n 2, 1) := by decide +kernel
theorem dX1_removeName_6 : decode cX1_removeName 6 = .ok (.iload_n 2, 1) := by decide +kernel
theorem dX1_removeName_7 : decode cX1_removeName 7 = .ok (.aload_n 0, 1) := by decide +kernel
theorem dX1_removeName_8 : decode cX1_removeName 8 = .ok (.getfield 18, 3) := by decide +kernel
theorem dX1_removeName_11 : decode cX1_removeName 11 = .ok (.iconst 1, 1) := by decide +kernel
theorem dX1_removeName_12 : decode cX1_removeName 12 = .ok (.isub, 1) := by decide +kernel
theorem dX1_removeName_13 : decode cX1_removeName 13 = .ok (.if_icmp .ge 45, 3) := by decide +kernel
theorem dX1_removeName_16 : decode cX1_removeName 16 = .ok (.aload_n 0, 1) := by decide +kernel
theorem dX1_removeName_17 : decode cX1_removeName 17 = .ok (.getfield 9, 3) := by decide +kernel
theorem dX1_removeName_20 : decode cX1_removeName 20 = .ok (.iload_n 2, 1) := by decide +kernel
theorem dX1_removeName_21 : decode cX1_removeName 21 = .ok (.aload_n 0, 1) := by decide +kernel
theorem dX1_removeName_22 : decode cX1_removeName 22 = .ok (.getfield 9, 3) := by decide +kernel
theorem dX1_removeName_25 : decode cX1_removeName 25 = .ok (.iload_n 2, 1) := by decide +kernel
theorem dX1_removeName_26 : decode cX1_removeName 26 = .ok (.iconst 1, 1) := by decide +kernel
theorem dX1_removeName_27 : decode cX1_removeName 27 = .ok (.iadd, 1) := by decide +kernel
theorem dX1_removeName_28 : decode cX1_removeName 28 = .ok (.invokestatic 22, 3) := by decide +kernel
theorem dX1_removeName_31 : decode cX1_removeName 31 = .ok (.invokestatic 43, 3) := by decide +kernel
theorem dX1_removeName_34 : decode cX1_removeName 34 = .ok (.aload_n 0, 1) := by decide +kernel
theorem dX1_removeName_35 : decode cX1_removeName 35 = .ok (.getfield 15, 3) := by decide +kernel
theorem dX1_removeName_38 : decode cX1_removeName 38 = .ok (.iload_n 2, 1) := by decide +kernel
theorem dX1_removeName_39 : decode cX1_removeName 39 = .ok (.aload_n 0, 1) := by decide +kernel
theorem dX1_removeName_40 : decode cX1_removeName 40 = .ok (.getfield 15, 3) := by decide +kernel
theorem dX1_removeName_43 : decode cX1_removeName 43 = .ok (.iload_n 2, 1) := by decide +kernel
theorem dX1_removeName_44 : decode cX1_removeName 44 = .ok (.iconst 1, 1) := by decide +kernel
theorem dX1_removeName_45 : decode cX1_removeName 45 = .ok (.iadd, 1) := by decide +kernel
theorem dX1_removeName_46 : decode cX1_removeName 46 = .ok (.invokestatic 22, 3) := by decide +kernel
theorem dX1_removeName_49 : decode cX1_removeName 49 = .ok (.invokestatic 43, 3) := by decide +kernel
theorem dX1_removeName_52 : decode cX1_removeName 52 = .ok (.iinc 2 1, 3) := by decide +kernel
theorem dX1_removeName_55 : decode cX1_removeName 55 = .ok (.goto (-49), 3) := by decide +kernel
theorem dX1_removeName_58 : decode cX1_removeName 58 = .ok (.aload_n 0, 1) := by decide +kernel
theorem dX1_removeName_59 : decode cX1_removeName 59 = .ok (.dup, 1) := by decide +kernel
theorem dX1_removeName_60 : decode cX1_removeName 60 = .ok (.getfield 18, 3) := by decide +kernel
theorem dX1_removeName_63 : decode cX1_removeName 63 = .ok (.iconst 1, 1) := by decide +kernel
theorem dX1_removeName_64 : decode cX1_removeName 64 = .ok (.isub, 1) := by decide +kernel
theorem dX1_removeName_65 : decode cX1_removeName 65 = .ok (.putfield 18, 3) := by decide +kernel
theorem dX1_removeName_68 : decode cX1_removeName 68 = .ok (.return_, 1) := by decide +kernel
theorem dX1_keepFirst_0 : decode cX1_keepFirst 0 = .ok (.aload_n 0, 1) := by decide +kernel
theorem dX1_keepFirst_1 : decode cX1_keepFirst 1 = .ok (.iload_n 1, 1) := by decide +kernel
theorem dX1_keepFirst_2 : decode cX1_keepFirst 2 = .ok (.putfield 18, 3) := by decide +kernel
theorem dX1_keepFirst_5 : decode cX1_keepFirst 5 = .ok (.return_, 1) := by decide +kernel
theorem dX1_changeBits_0 : decode cX1_changeBits 0 = .ok (.aload_n 0, 1) := by decide +kernel
theorem dX1_changeBits_1 : decode cX1_changeBits 1 = .ok (.getfield 18, 3) := by decide +kernel
theorem dX1_changeBits_4 : decode cX1_changeBits 4 = .ok (.istore_n 2, 1) := by decide +kernel
theorem dX1_changeBits_5 : decode cX1_changeBits 5 = .ok (.aload_n 0, 1) := by decide +kernel
theorem dX1_changeBits_6 : decode cX1_changeBits 6 = .ok (.iconst 0, 1) := by decide +kernel
theorem dX1_changeBits_7 : decode cX1_changeBits 7 = .ok (.invokevirtual 54, 3) := by decide +kernel
theorem dX1_changeBits_10 : decode cX1_changeBits 10 = .ok (.iconst 0, 1) := by decide +kernel
theorem dX1_changeBits_11 : decode cX1_changeBits 11 = .ok (.istore_n 3, 1) := by decide +kernel
theorem dX1_changeBits_12 : decode cX1_changeBits 12 = .ok (.iload_n 3, 1) := by decide +kernel
theorem dX1_changeBits_13 : decode cX1_changeBits 13 = .ok (.iload_n 2, 1) := by decide +kernel
theorem dX1_changeBits_14 : decode cX1_changeBits 14 = .ok (.if_icmp .ge 31, 3) := by decide +kernel
theorem dX1_changeBits_17 : decode cX1_changeBits 17 = .ok (.aload_n 0, 1) := by decide +kernel
theorem dX1_changeBits_18 : decode cX1_changeBits 18 = .ok (.aload_n 0, 1) := by decide +kernel
theorem dX1_changeBits_19 : decode cX1_changeBits 19 = .ok (.getfield 9, 3) := by decide +kernel
theorem dX1_changeBits_22 : decode cX1_changeBits 22 = .ok (.iload_n 3, 1) := by decide +kernel
theorem dX1_changeBits_23 : decode cX1_changeBits 23 = .ok (.invokestatic 22, 3) := by decide +kernel
theorem dX1_changeBits_26 : decode cX1_changeBits 26 = .ok (.iload_n 1, 1) := by decide +kernel
theorem dX1_changeBits_27 : decode cX1_changeBits 27 = .ok (.ixor, 1) := by decide +kernel
theorem dX1_changeBits_28 : decode cX1_changeBits 28 = .ok (.aload_n 0, 1) := by decide +kernel
theorem dX1_changeBits_29 : decode cX1_changeBits 29 = .ok (.getfield 15, 3) := by decide +kernel
theorem dX1_changeBits_32 : decode cX1_changeBits 32 = .ok (.iload_n 3, 1) := by decide +kernel
theorem dX1_changeBits_33 : decode cX1_changeBits 33 = .ok (.invokestatic 22, 3) := by decide +kernel
theorem dX1_changeBits_36 : decode cX1_changeBits 36 = .ok (.invokevirtual 50, 3) := by decide +kernel
theorem dX1_changeBits_39 : decode cX1_changeBits 39 = .ok (.iinc 3 1, 3) := by decide +kernel
theorem dX1_changeBits_42 : decode cX1_changeBits 42 = .ok (.goto (-30), 3) := by decide +kernel
theorem dX1_changeBits_45 : decode cX1_changeBits 45 = .ok (.return_, 1) := by decide +kernel
theorem dX1_addedMiles_0 : decode cX1_addedMiles 0 = .ok (.iconst 0, 1) := by decide +kernel
theorem dX1_addedMiles_1 : decode cX1_addedMiles 1 = .ok (.istore_n 3, 1) := by decide +kernel
theorem dX1_addedMiles_2 : decode cX1_addedMiles 2 = .ok (.iload_n 1, 1) := by decide +kernel
theorem dX1_addedMiles_3 : decode cX1_addedMiles 3 = .ok (.istore 4, 2) := by decide +kernel
theorem dX1_addedMiles_5 : decode cX1_addedMiles 5 = .ok (.iload 4, 2) := by decide +kernel
theorem dX1_addedMiles_7 : decode cX1_addedMiles 7 = .ok (.iload_n 2, 1) := by decide +kernel
theorem dX1_addedMiles_8 : decode cX1_addedMiles 8 = .ok (.if_icmp .ge 18, 3) := by decide +kernel
theorem dX1_addedMiles_11 : decode cX1_addedMiles 11 = .ok (.iload_n 3, 1) := by decide +kernel
theorem dX1_addedMiles_12 : decode cX1_addedMiles 12 = .ok (.aload_n 0, 1) := by decide +kernel
theorem dX1_addedMiles_13 : decode cX1_addedMiles 13 = .ok (.iload 4, 2) := by decide +kernel
theorem dX1_addedMiles_15 : decode cX1_addedMiles 15 = .ok (.invokevirtual 33, 3) := by decide +kernel
theorem dX1_addedMiles_18 : decode cX1_addedMiles 18 = .ok (.iadd, 1) := by decide +kernel
theorem dX1_addedMiles_19 : decode cX1_addedMiles 19 = .ok (.istore_n 3, 1) := by decide +kernel
theorem dX1_addedMiles_20 : decode cX1_addedMiles 20 = .ok (.iinc 4 1, 3) := by decide +kernel
theorem dX1_addedMiles_23 : decode cX1_addedMiles 23 = .ok (.goto (-18), 3) := by decide +kernel
theorem dX1_addedMiles_26 : decode cX1_addedMiles 26 = .ok (.iload_n 3, 1) := by decide +kernel
theorem dX1_addedMiles_27 : decode cX1_addedMiles 27 = .ok (.ireturn, 1) := by decide +kernel
theorem dX1_mostMiles_0 : decode cX1_mostMiles 0 = .ok (.iconst (-1), 1) := by decide +kernel
theorem dX1_mostMiles_1 : decode cX1_mostMiles 1 = .ok (.istore_n 3, 1) := by decide +kernel
theorem dX1_mostMiles_2 : decode cX1_mostMiles 2 = .ok (.iload_n 1, 1) := by decide +kernel
theorem dX1_mostMiles_3 : decode cX1_mostMiles 3 = .ok (.istore 4, 2) := by decide +kernel
theorem dX1_mostMiles_5 : decode cX1_mostMiles 5 = .ok (.iload 4, 2) := by decide +kernel
theorem dX1_mostMiles_7 : decode cX1_mostMiles 7 = .ok (.iload_n 2, 1) := by decide +kernel
theorem dX1_mostMiles_8 : decode cX1_mostMiles 8 = .ok (.if_icmp .ge 20, 3) := by decide +kernel
theorem dX1_mostMiles_11 : decode cX1_mostMiles 11 = .ok (.iload_n 3, 1) := by decide +kernel
theorem dX1_mostMiles_12 : decode cX1_mostMiles 12 = .ok (.aload_n 0, 1) := by decide +kernel
theorem dX1_mostMiles_13 : decode cX1_mostMiles 13 = .ok (.iload 4, 2) := by decide +kernel
theorem dX1_mostMiles_15 : decode cX1_mostMiles 15 = .ok (.invokevirtual 33, 3) := by decide +kernel
theorem dX1_mostMiles_18 : decode cX1_mostMiles 18 = .ok (.invokestatic 57, 3) := by decide +kernel
theorem dX1_mostMiles_21 : decode cX1_mostMiles 21 = .ok (.istore_n 3, 1) := by decide +kernel
theorem dX1_mostMiles_22 : decode cX1_mostMiles 22 = .ok (.iinc 4 1, 3) := by decide +kernel
theorem dX1_mostMiles_25 : decode cX1_mostMiles 25 = .ok (.goto (-20), 3) := by decide +kernel
theorem dX1_mostMiles_28 : decode cX1_mostMiles 28 = .ok (.iload_n 3, 1) := by decide +kernel
theorem dX1_mostMiles_29 : decode cX1_mostMiles 29 = .ok (.ireturn, 1) := by decide +kernel
theorem dX1_sharedBits_0 : decode cX1_sharedBits 0 = .ok (.iload_n 1, 1) := by decide +kernel
theorem dX1_sharedBits_1 : decode cX1_sharedBits 1 = .ok (.iload_n 2, 1) := by decide +kernel
theorem dX1_sharedBits_2 : decode cX1_sharedBits 2 = .ok (.if_icmp .lt 5, 3) := by decide +kernel
theorem dX1_sharedBits_5 : decode cX1_sharedBits 5 = .ok (.iconst 0, 1) := by decide +kernel
theorem dX1_sharedBits_6 : decode cX1_sharedBits 6 = .ok (.ireturn, 1) := by decide +kernel
theorem dX1_sharedBits_7 : decode cX1_sharedBits 7 = .ok (.bipush 15, 2) := by decide +kernel
theorem dX1_sharedBits_9 : decode cX1_sharedBits 9 = .ok (.aload_n 0, 1) := by decide +kernel
theorem dX1_sharedBits_10 : decode cX1_sharedBits 10 = .ok (.iload_n 1, 1) := by decide +kernel
theorem dX1_sharedBits_11 : decode cX1_sharedBits 11 = .ok (.invokevirtual 30, 3) := by decide +kernel
theorem dX1_sharedBits_14 : decode cX1_sharedBits 14 = .ok (.aload_n 0, 1) := by decide +kernel
theorem dX1_sharedBits_15 : decode cX1_sharedBits 15 = .ok (.iload_n 2, 1) := by decide +kernel
theorem dX1_sharedBits_16 : decode cX1_sharedBits 16 = .ok (.iconst 1, 1) := by decide +kernel
theorem dX1_sharedBits_17 : decode cX1_sharedBits 17 = .ok (.isub, 1) := by decide +kernel
theorem dX1_sharedBits_18 : decode cX1_sharedBits 18 = .ok (.invokevirtual 30, 3) := by decide +kernel
theorem dX1_sharedBits_21 : decode cX1_sharedBits 21 = .ok (.invokestatic 63, 3) := by decide +kernel
theorem dX1_sharedBits_24 : decode cX1_sharedBits 24 = .ok (.isub, 1) := by decide +kernel
theorem dX1_sharedBits_25 : decode cX1_sharedBits 25 = .ok (.ireturn, 1) := by decide +kernel
theorem dX1_nearest_0 : decode cX1_nearest 0 = .ok (.iconst (-1), 1) := by decide +kernel
theorem dX1_nearest_1 : decode cX1_nearest 1 = .ok (.istore_n 2, 1) := by decide +kernel
theorem dX1_nearest_2 : decode cX1_nearest 2 = .ok (.iconst 0, 1) := by decide +kernel
theorem dX1_nearest_3 : decode cX1_nearest 3 = .ok (.istore_n 3, 1) := by decide +kernel
theorem dX1_nearest_4 : decode cX1_nearest 4 = .ok (.iload_n 3, 1) := by decide +kernel
theorem dX1_nearest_5 : decode cX1_nearest 5 = .ok (.aload_n 0, 1) := by decide +kernel
theorem dX1_nearest_6 : decode cX1_nearest 6 = .ok (.getfield 18, 3) := by decide +kernel
theorem dX1_nearest_9 : decode cX1_nearest 9 = .ok (.if_icmp .ge 33, 3) := by decide +kernel
theorem dX1_nearest_12 : decode cX1_nearest 12 = .ok (.iload_n 2, 1) := by decide +kernel
theorem dX1_nearest_13 : decode cX1_nearest 13 = .ok (.iconst (-1), 1) := by decide +kernel
theorem dX1_nearest_14 : decode cX1_nearest 14 = .ok (.if_icmp .eq 16, 3) := by decide +kernel
theorem dX1_nearest_17 : decode cX1_nearest 17 = .ok (.aload_n 0, 1) := by decide +kernel
theorem dX1_nearest_18 : decode cX1_nearest 18 = .ok (.iload_n 3, 1) := by decide +kernel
theorem dX1_nearest_19 : decode cX1_nearest 19 = .ok (.invokevirtual 30, 3) := by decide +kernel
theorem dX1_nearest_22 : decode cX1_nearest 22 = .ok (.iload_n 1, 1) := by decide +kernel
theorem dX1_nearest_23 : decode cX1_nearest 23 = .ok (.ixor, 1) := by decide +kernel
theorem dX1_nearest_24 : decode cX1_nearest 24 = .ok (.iload_n 2, 1) := by decide +kernel
theorem dX1_nearest_25 : decode cX1_nearest 25 = .ok (.iload_n 1, 1) := by decide +kernel
theorem dX1_nearest_26 : decode cX1_nearest 26 = .ok (.ixor, 1) := by decide +kernel
theorem dX1_nearest_27 : decode cX1_nearest 27 = .ok (.if_icmp .ge 9, 3) := by decide +kernel
theorem dX1_nearest_30 : decode cX1_nearest 30 = .ok (.aload_n 0, 1) := by decide +kernel
theorem dX1_nearest_31 : decode cX1_nearest 31 = .ok (.iload_n 3, 1) := by decide +kernel
theorem dX1_nearest_32 : decode cX1_nearest 32 = .ok (.invokevirtual 30, 3) := by decide +kernel
theorem dX1_nearest_35 : decode cX1_nearest 35 = .ok (.istore_n 2, 1) := by decide +kernel
theorem dX1_nearest_36 : decode cX1_nearest 36 = .ok (.iinc 3 1, 3) := by decide +kernel
theorem dX1_nearest_39 : decode cX1_nearest 39 = .ok (.goto (-35), 3) := by decide +kernel
theorem dX1_nearest_42 : decode cX1_nearest 42 = .ok (.iload_n 2, 1) := by decide +kernel
theorem dX1_nearest_43 : decode cX1_nearest 43 = .ok (.ireturn, 1) := by decide +kernel
theorem dX1_farthest_0 : decode cX1_farthest 0 = .ok (.iconst (-1), 1) := by decide +kernel
theorem dX1_farthest_1 : decode cX1_farthest 1 = .ok (.istore_n 1, 1) := by decide +kernel
theorem dX1_farthest_2 : decode cX1_farthest 2 = .ok (.iconst 0, 1) := by decide +kernel
theorem dX1_farthest_3 : decode cX1_farthest 3 = .ok (.istore_n 2, 1) := by decide +kernel
theorem dX1_farthest_4 : decode cX1_farthest 4 = .ok (.iload_n 2, 1) := by decide +kernel
theorem dX1_farthest_5 : decode cX1_farthest 5 = .ok (.aload_n 0, 1) := by decide +kernel
theorem dX1_farthest_6 : decode cX1_farthest 6 = .ok (.getfield 18, 3) := by decide +kernel
theorem dX1_farthest_9 : decode cX1_farthest 9 = .ok (.if_icmp .ge 43, 3) := by decide +kernel
theorem dX1_farthest_12 : decode cX1_farthest 12 = .ok (.iload_n 2, 1) := by decide +kernel
theorem dX1_farthest_13 : decode cX1_farthest 13 = .ok (.iconst 1, 1) := by decide +kernel
theorem dX1_farthest_14 : decode cX1_farthest 14 = .ok (.iadd, 1) := by decide +kernel
theorem dX1_farthest_15 : decode cX1_farthest 15 = .ok (.istore_n 3, 1) := by decide +kernel
theorem dX1_farthest_16 : decode cX1_farthest 16 = .ok (.iload_n 3, 1) := by decide +kernel
theorem dX1_farthest_17 : decode cX1_farthest 17 = .ok (.aload_n 0, 1) := by decide +kernel
theorem dX1_farthest_18 : decode cX1_farthest 18 = .ok (.getfield 18, 3) := by decide +kernel
theorem dX1_farthest_21 : decode cX1_farthest 21 = .ok (.if_icmp .ge 25, 3) := by decide +kernel
theorem dX1_farthest_24 : decode cX1_farthest 24 = .ok (.iload_n 1, 1) := by decide +kernel
theorem dX1_farthest_25 : decode cX1_farthest 25 = .ok (.aload_n 0, 1) := by decide +kernel
theorem dX1_farthest_26 : decode cX1_farthest 26 = .ok (.iload_n 2, 1) := by decide +kernel
theorem dX1_farthest_27 : decode cX1_farthest 27 = .ok (.invokevirtual 30, 3) := by decide +kernel
theorem dX1_farthest_30 : decode cX1_farthest 30 = .ok (.aload_n 0, 1) := by decide +kernel
theorem dX1_farthest_31 : decode cX1_farthest 31 = .ok (.iload_n 3, 1) := by decide +kernel
theorem dX1_farthest_32 : decode cX1_farthest 32 = .ok (.invokevirtual 30, 3) := by decide +kernel
theorem dX1_farthest_35 : decode cX1_farthest 35 = .ok (.ixor, 1) := by decide +kernel
theorem dX1_farthest_36 : decode cX1_farthest 36 = .ok (.invokestatic 57, 3) := by decide +kernel
theorem dX1_farthest_39 : decode cX1_farthest 39 = .ok (.istore_n 1, 1) := by decide +kernel
theorem dX1_farthest_40 : decode cX1_farthest 40 = .ok (.iinc 3 1, 3) := by decide +kernel
theorem dX1_farthest_43 : decode cX1_farthest 43 = .ok (.goto (-27), 3) := by decide +kernel
theorem dX1_farthest_46 : decode cX1_farthest 46 = .ok (.iinc 2 1, 3) := by decide +kernel
theorem dX1_farthest_49 : decode cX1_farthest 49 = .ok (.goto (-45), 3) := by decide +kernel
theorem dX1_farthest_52 : decode cX1_farthest 52 = .ok (.iload_n 1, 1) := by decide +kernel
theorem dX1_farthest_53 : decode cX1_farthest 53 = .ok (.ireturn, 1) := by decide +kernel
theorem dX1_makeRoomAt_0 : decode cX1_makeRoomAt 0 = .ok (.aload_n 0, 1) := by decide +kernel
theorem dX1_makeRoomAt_1 : decode cX1_makeRoomAt 1 = .ok (.getfield 18, 3) := by decide +kernel
theorem dX1_makeRoomAt_4 : decode cX1_makeRoomAt 4 = .ok (.istore_n 2, 1) := by decide +kernel
theorem dX1_makeRoomAt_5 : decode cX1_makeRoomAt 5 = .ok (.iload_n 2, 1) := by decide +kernel
theorem dX1_makeRoomAt_6 : decode cX1_makeRoomAt 6 = .ok (.iload_n 1, 1) := by decide +kernel
theorem dX1_makeRoomAt_7 : decode cX1_makeRoomAt 7 = .ok (.if_icmp .le 45, 3) := by decide +kernel
theorem dX1_makeRoomAt_10 : decode cX1_makeRoomAt 10 = .ok (.aload_n 0, 1) := by decide +kernel
theorem dX1_makeRoomAt_11 : decode cX1_makeRoomAt 11 = .ok (.getfield 9, 3) := by decide +kernel
theorem dX1_makeRoomAt_14 : decode cX1_makeRoomAt 14 = .ok (.iload_n 2, 1) := by decide +kernel
theorem dX1_makeRoomAt_15 : decode cX1_makeRoomAt 15 = .ok (.aload_n 0, 1) := by decide +kernel
theorem dX1_makeRoomAt_16 : decode cX1_makeRoomAt 16 = .ok (.getfield 9, 3) := by decide +kernel
theorem dX1_makeRoomAt_19 : decode cX1_makeRoomAt 19 = .ok (.iload_n 2, 1) := by decide +kernel
theorem dX1_makeRoomAt_20 : decode cX1_makeRoomAt 20 = .ok (.iconst 1, 1) := by decide +kernel
theorem dX1_makeRoomAt_21 : decode cX1_makeRoomAt 21 = .ok (.isub, 1) := by decide +kernel
theorem dX1_makeRoomAt_22 : decode cX1_makeRoomAt 22 = .ok (.invokestatic 22, 3) := by decide +kernel
theorem dX1_makeRoomAt_25 : decode cX1_makeRoomAt 25 = .ok (.invokestatic 43, 3) := by decide +kernel
theorem dX1_makeRoomAt_28 : decode cX1_makeRoomAt 28 = .ok (.aload_n 0, 1) := by decide +kernel
theorem dX1_makeRoomAt_29 : decode cX1_makeRoomAt 29 = .ok (.getfield 15, 3) := by decide +kernel
theorem dX1_makeRoomAt_32 : decode cX1_makeRoomAt 32 = .ok (.iload_n 2, 1) := by decide +kernel
theorem dX1_makeRoomAt_33 : decode cX1_makeRoomAt 33 = .ok (.aload_n 0, 1) := by decide +kernel
theorem dX1_makeRoomAt_34 : decode cX1_makeRoomAt 34 = .ok (.getfield 15, 3) := by decide +kernel
theorem dX1_makeRoomAt_37 : decode cX1_makeRoomAt 37 = .ok (.iload_n 2, 1) := by decide +kernel
theorem dX1_makeRoomAt_38 : decode cX1_makeRoomAt 38 = .ok (.iconst 1, 1) := by decide +kernel
theorem dX1_makeRoomAt_39 : decode cX1_makeRoomAt 39 = .ok (.isub, 1) := by decide +kernel
theorem dX1_makeRoomAt_40 : decode cX1_makeRoomAt 40 = .ok (.invokestatic 22, 3) := by decide +kernel
theorem dX1_makeRoomAt_43 : decode cX1_makeRoomAt 43 = .ok (.invokestatic 43, 3) := by decide +kernel
theorem dX1_makeRoomAt_46 : decode cX1_makeRoomAt 46 = .ok (.iinc 2 (-1), 3) := by decide +kernel
theorem dX1_makeRoomAt_49 : decode cX1_makeRoomAt 49 = .ok (.goto (-44), 3) := by decide +kernel
theorem dX1_makeRoomAt_52 : decode cX1_makeRoomAt 52 = .ok (.aload_n 0, 1) := by decide +kernel
theorem dX1_makeRoomAt_53 : decode cX1_makeRoomAt 53 = .ok (.dup, 1) := by decide +kernel
theorem dX1_makeRoomAt_54 : decode cX1_makeRoomAt 54 = .ok (.getfield 18, 3) := by decide +kernel
theorem dX1_makeRoomAt_57 : decode cX1_makeRoomAt 57 = .ok (.iconst 1, 1) := by decide +kernel
theorem dX1_makeRoomAt_58 : decode cX1_makeRoomAt 58 = .ok (.iadd, 1) := by decide +kernel
theorem dX1_makeRoomAt_59 : decode cX1_makeRoomAt 59 = .ok (.putfield 18, 3) := by decide +kernel
theorem dX1_makeRoomAt_62 : decode cX1_makeRoomAt 62 = .ok (.return_, 1) := by decide +kernel
theorem dX2_init_0 : decode cX2_init 0 = .ok (.aload_n 0, 1) := by decide +kernel
theorem dX2_init_1 : decode cX2_init 1 = .ok (.invokespecial 3, 3) := by decide +kernel
theorem dX2_init_4 : decode cX2_init 4 = .ok (.aload_n 0, 1) := by decide +kernel
theorem dX2_init_5 : decode cX2_init 5 = .ok (.new 9, 3) := by decide +kernel
theorem dX2_init_8 : decode cX2_init 8 = .ok (.dup, 1) := by decide +kernel
theorem dX2_init_9 : decode cX2_init 9 = .ok (.invokespecial 11, 3) := by decide +kernel
theorem dX2_init_12 : decode cX2_init 12 = .ok (.putfield 12, 3) := by decide +kernel
theorem dX2_init_15 : decode cX2_init 15 = .ok (.aload_n 0, 1) := by decide +kernel
theorem dX2_init_16 : decode cX2_init 16 = .ok (.new 9, 3) := by decide +kernel
theorem dX2_init_19 : decode cX2_init 19 = .ok (.dup, 1) := by decide +kernel
theorem dX2_init_20 : decode cX2_init 20 = .ok (.invokespecial 11, 3) := by decide +kernel
theorem dX2_init_23 : decode cX2_init 23 = .ok (.putfield 16, 3) := by decide +kernel
theorem dX2_init_26 : decode cX2_init 26 = .ok (.aload_n 0, 1) := by decide +kernel
theorem dX2_init_27 : decode cX2_init 27 = .ok (.new 9, 3) := by decide +kernel
theorem dX2_init_30 : decode cX2_init 30 = .ok (.dup, 1) := by decide +kernel
theorem dX2_init_31 : decode cX2_init 31 = .ok (.invokespecial 11, 3) := by decide +kernel
theorem dX2_init_34 : decode cX2_init 34 = .ok (.putfield 19, 3) := by decide +kernel
theorem dX2_init_37 : decode cX2_init 37 = .ok (.aload_n 0, 1) := by decide +kernel
theorem dX2_init_38 : decode cX2_init 38 = .ok (.new 22, 3) := by decide +kernel
theorem dX2_init_41 : decode cX2_init 41 = .ok (.dup, 1) := by decide +kernel
theorem dX2_init_42 : decode cX2_init 42 = .ok (.invokespecial 24, 3) := by decide +kernel
theorem dX2_init_45 : decode cX2_init 45 = .ok (.putfield 25, 3) := by decide +kernel
theorem dX2_init_48 : decode cX2_init 48 = .ok (.return_, 1) := by decide +kernel
theorem dX2_put_0 : decode cX2_put 0 = .ok (.iload_n 1, 1) := by decide +kernel
theorem dX2_put_1 : decode cX2_put 1 = .ok (.invokestatic 29, 3) := by decide +kernel
theorem dX2_put_4 : decode cX2_put 4 = .ok (.iload_n 2, 1) := by decide +kernel
theorem dX2_put_5 : decode cX2_put 5 = .ok (.invokestatic 33, 3) := by decide +kernel
theorem dX2_put_8 : decode cX2_put 8 = .ok (.iload_n 3, 1) := by decide +kernel
theorem dX2_put_9 : decode cX2_put 9 = .ok (.invokestatic 36, 3) := by decide +kernel
theorem dX2_put_12 : decode cX2_put 12 = .ok (.aload_n 0, 1) := by decide +kernel
theorem dX2_put_13 : decode cX2_put 13 = .ok (.iload_n 1, 1) := by decide +kernel
theorem dX2_put_14 : decode cX2_put 14 = .ok (.invokevirtual 39, 3) := by decide +kernel
theorem dX2_put_17 : decode cX2_put 17 = .ok (.astore 4, 2) := by decide +kernel
theorem dX2_put_19 : decode cX2_put 19 = .ok (.aload 4, 2) := by decide +kernel
theorem dX2_put_21 : decode cX2_put 21 = .ok (.iload_n 2, 1) := by decide +kernel
theorem dX2_put_22 : decode cX2_put 22 = .ok (.invokevirtual 43, 3) := by decide +kernel
theorem dX2_put_25 : decode cX2_put 25 = .ok (.istore 5, 2) := by decide +kernel
theorem dX2_put_27 : decode cX2_put 27 = .ok (.iload 5, 2) := by decide +kernel
theorem dX2_put_29 : decode cX2_put 29 = .ok (.iconst (-1), 1) := by decide +kernel
theorem dX2_put_30 : decode cX2_put 30 = .ok (.if_icmp .ne 23, 3) := by decide +kernel
theorem dX2_put_33 : decode cX2_put 33 = .ok (.aload 4, 2) := by decide +kernel
theorem dX2_put_35 : decode cX2_put 35 = .ok (.invokevirtual 47, 3) := by decide +kernel
theorem dX2_put_38 : decode cX2_put 38 = .ok (.bipush 24, 2) := by decide +kernel
theorem dX2_put_40 : decode cX2_put 40 = .ok (.if_icmp .lt 13, 3) := by decide +kernel
theorem dX2_put_43 : decode cX2_put 43 = .ok (.new 51, 3) := by decide +kernel
theorem dX2_put_46 : decode cX2_put 46 = .ok (.dup, 1) := by decide +kernel
theorem dX2_put_47 : decode cX2_put 47 = .ok (.ldc 53, 2) := by decide +kernel
theorem dX2_put_49 : decode cX2_put 49 = .ok (.invokespecial 55, 3) := by decide +kernel
theorem dX2_put_52 : decode cX2_put 52 = .ok (.athrow, 1) := by decide +kernel
theorem dX2_put_53 : decode cX2_put 53 = .ok (.aload 4, 2) := by decide +kernel
theorem dX2_put_55 : decode cX2_put 55 = .ok (.iload_n 2, 1) := by decide +kernel
theorem dX2_put_56 : decode cX2_put 56 = .ok (.iload_n 3, 1) := by decide +kernel
theorem dX2_put_57 : decode cX2_put 57 = .ok (.invokevirtual 58, 3) := by decide +kernel
theorem dX2_put_60 : decode cX2_put 60 = .ok (.iload 5, 2) := by decide +kernel
theorem dX2_put_62 : decode cX2_put 62 = .ok (.ireturn, 1) := by decide +kernel
theorem dX2_take_0 : decode cX2_take 0 = .ok (.iload_n 1, 1) := by decide +kernel
theorem dX2_take_1 : decode cX2_take 1 = .ok (.invokestatic 29, 3) := by decide +kernel
theorem dX2_take_4 : decode cX2_take 4 = .ok (.iload_n 2, 1) := by decide +kernel
theorem dX2_take_5 : decode cX2_take 5 = .ok (.invokestatic 33, 3) := by decide +kernel
theorem dX2_take_8 : decode cX2_take 8 = .ok (.aload_n 0, 1) := by decide +kernel
theorem dX2_take_9 : decode cX2_take 9 = .ok (.iload_n 1, 1) := by decide +kernel
theorem dX2_take_10 : decode cX2_take 10 = .ok (.invokevirtual 39, 3) := by decide +kernel
theorem dX2_take_13 : decode cX2_take 13 = .ok (.astore_n 3, 1) := by decide +kernel
theorem dX2_take_14 : decode cX2_take 14 = .ok (.aload_n 3, 1) := by decide +kernel
theorem dX2_take_15 : decode cX2_take 15 = .ok (.iload_n 2, 1) := by decide +kernel
theorem dX2_take_16 : decode cX2_take 16 = .ok (.invokevirtual 43, 3) := by decide +kernel
theorem dX2_take_19 : decode cX2_take 19 = .ok (.istore 4, 2) := by decide +kernel
theorem dX2_take_21 : decode cX2_take 21 = .ok (.iload 4, 2) := by decide +kernel
theorem dX2_take_23 : decode cX2_take 23 = .ok (.iconst (-1), 1) := by decide +kernel
theorem dX2_take_24 : decode cX2_take 24 = .ok (.if_icmp .ne 13, 3) := by decide +kernel
theorem dX2_take_27 : decode cX2_take 27 = .ok (.new 51, 3) := by decide +kernel
theorem dX2_take_30 : decode cX2_take 30 = .ok (.dup, 1) := by decide +kernel
theorem dX2_take_31 : decode cX2_take 31 = .ok (.ldc 62, 2) := by decide +kernel
theorem dX2_take_33 : decode cX2_take 33 = .ok (.invokespecial 55, 3) := by decide +kernel
theorem dX2_take_36 : decode cX2_take 36 = .ok (.athrow, 1) := by decide +kernel
theorem dX2_take_37 : decode cX2_take 37 = .ok (.aload_n 3, 1) := by decide +kernel
theorem dX2_take_38 : decode cX2_take 38 = .ok (.iload_n 2, 1) := by decide +kernel
theorem dX2_take_39 : decode cX2_take 39 = .ok (.invokevirtual 64, 3) := by decide +kernel
theorem dX2_take_42 : decode cX2_take 42 = .ok (.iload 4, 2) := by decide +kernel
theorem dX2_take_44 : decode cX2_take 44 = .ok (.ireturn, 1) := by decide +kernel
theorem dX2_merge_0 : decode cX2_merge 0 = .ok (.iload_n 1, 1) := by decide +kernel
theorem dX2_merge_1 : decode cX2_merge 1 = .ok (.invokestatic 29, 3) := by decide +kernel
theorem dX2_merge_4 : decode cX2_merge 4 = .ok (.iload_n 2, 1) := by decide +kernel
theorem dX2_merge_5 : decode cX2_merge 5 = .ok (.iconst 3, 1) := by decide +kernel
theorem dX2_merge_6 : decode cX2_merge 6 = .ok (.invokestatic 67, 3) := by decide +kernel
theorem dX2_merge_9 : decode cX2_merge 9 = .ok (.aload_n 0, 1) := by decide +kernel
theorem dX2_merge_10 : decode cX2_merge 10 = .ok (.iload_n 1, 1) := by decide +kernel
theorem dX2_merge_11 : decode cX2_merge 11 = .ok (.invokevirtual 39, 3) := by decide +kernel
theorem dX2_merge_14 : decode cX2_merge 14 = .ok (.astore_n 3, 1) := by decide +kernel
theorem dX2_merge_15 : decode cX2_merge 15 = .ok (.aload_n 0, 1) := by decide +kernel
theorem dX2_merge_16 : decode cX2_merge 16 = .ok (.iload_n 1, 1) := by decide +kernel
theorem dX2_merge_17 : decode cX2_merge 17 = .ok (.invokevirtual 70, 3) := by decide +kernel
theorem dX2_merge_20 : decode cX2_merge 20 = .ok (.astore 4, 2) := by decide +kernel
theorem dX2_merge_22 : decode cX2_merge 22 = .ok (.aload_n 3, 1) := by decide +kernel
theorem dX2_merge_23 : decode cX2_merge 23 = .ok (.aload 4, 2) := by decide +kernel
theorem dX2_merge_25 : decode cX2_merge 25 = .ok (.invokevirtual 73, 3) := by decide +kernel
theorem dX2_merge_28 : decode cX2_merge 28 = .ok (.istore 5, 2) := by decide +kernel
theorem dX2_merge_30 : decode cX2_merge 30 = .ok (.aload_n 3, 1) := by decide +kernel
theorem dX2_merge_31 : decode cX2_merge 31 = .ok (.invokevirtual 47, 3) := by decide +kernel
theorem dX2_merge_34 : decode cX2_merge 34 = .ok (.aload 4, 2) := by decide +kernel
theorem dX2_merge_36 : decode cX2_merge 36 = .ok (.invokevirtual 47, 3) := by decide +kernel
theorem dX2_merge_39 : decode cX2_merge 39 = .ok (.iadd, 1) := by decide +kernel
theorem dX2_merge_40 : decode cX2_merge 40 = .ok (.iload 5, 2) := by decide +kernel
theorem dX2_merge_42 : decode cX2_merge 42 = .ok (.isub, 1) := by decide +kernel
theorem dX2_merge_43 : decode cX2_merge 43 = .ok (.bipush 24, 2) := by decide +kernel
theorem dX2_merge_45 : decode cX2_merge 45 = .ok (.if_icmp .le 13, 3) := by decide +kernel
theorem dX2_merge_48 : decode cX2_merge 48 = .ok (.new 51, 3) := by decide +kernel
theorem dX2_merge_51 : decode cX2_merge 51 = .ok (.dup, 1) := by decide +kernel
theorem dX2_merge_52 : decode cX2_merge 52 = .ok (.ldc 77, 2) := by decide +kernel
theorem dX2_merge_54 : decode cX2_merge 54 = .ok (.invokespecial 55, 3) := by decide +kernel
theorem dX2_merge_57 : decode cX2_merge 57 = .ok (.athrow, 1) := by decide +kernel
theorem dX2_merge_58 : decode cX2_merge 58 = .ok (.iconst 0, 1) := by decide +kernel
theorem dX2_merge_59 : decode cX2_merge 59 = .ok (.istore 6, 2) := by decide +kernel
theorem dX2_merge_61 : decode cX2_merge 61 = .ok (.iload 6, 2) := by decide +kernel
theorem dX2_merge_63 : decode cX2_merge 63 = .ok (.aload_n 3, 1) := by decide +kernel
theorem dX2_merge_64 : decode cX2_merge 64 = .ok (.invokevirtual 47, 3) := by decide +kernel
theorem dX2_merge_67 : decode cX2_merge 67 = .ok (.if_icmp .ge 41, 3) := by decide +kernel
theorem dX2_merge_70 : decode cX2_merge 70 = .ok (.aload_n 3, 1) := by decide +kernel
theorem dX2_merge_71 : decode cX2_merge 71 = .ok (.iload 6, 2) := by decide +kernel
theorem dX2_merge_73 : decode cX2_merge 73 = .ok (.invokevirtual 79, 3) := by decide +kernel
theorem dX2_merge_76 : decode cX2_merge 76 = .ok (.istore 7, 2) := by decide +kernel
theorem dX2_merge_78 : decode cX2_merge 78 = .ok (.aload 4, 2) := by decide +kernel
theorem dX2_merge_80 : decode cX2_merge 80 = .ok (.iload 7, 2) := by decide +kernel
theorem dX2_merge_82 : decode cX2_merge 82 = .ok (.iload_n 2, 1) := by decide +kernel
theorem dX2_merge_83 : decode cX2_merge 83 = .ok (.aload_n 3, 1) := by decide +kernel
theorem dX2_merge_84 : decode cX2_merge 84 = .ok (.iload 6, 2) := by decide +kernel
theorem dX2_merge_86 : decode cX2_merge 86 = .ok (.invokevirtual 82, 3) := by decide +kernel
theorem dX2_merge_89 : decode cX2_merge 89 = .ok (.aload 4, 2) := by decide +kernel
theorem dX2_merge_91 : decode cX2_merge 91 = .ok (.iload 7, 2) := by decide +kernel
theorem dX2_merge_93 : decode cX2_merge 93 = .ok (.invokevirtual 43, 3) := by decide +kernel
theorem dX2_merge_96 : decode cX2_merge 96 = .ok (.invokestatic 85, 3) := by decide +kernel
theorem dX2_merge_99 : decode cX2_merge 99 = .ok (.invokevirtual 58, 3) := by decide +kernel
theorem dX2_merge_102 : decode cX2_merge 102 = .ok (.iinc 6 1, 3) := by decide +kernel
theorem dX2_merge_105 : decode cX2_merge 105 = .ok (.goto (-44), 3) := by decide +kernel
theorem dX2_merge_108 : decode cX2_merge 108 = .ok (.aload_n 3, 1) := by decide +kernel
theorem dX2_merge_109 : decode cX2_merge 109 = .ok (.iconst 0, 1) := by decide +kernel
theorem dX2_merge_110 : decode cX2_merge 110 = .ok (.invokevirtual 89, 3) := by decide +kernel
theorem dX2_merge_113 : decode cX2_merge 113 = .ok (.iload 5, 2) := by decide +kernel
theorem dX2_merge_115 : decode cX2_merge 115 = .ok (.ireturn, 1) := by decide +kernel
theorem dX2_cut_0 : decode cX2_cut 0 = .ok (.iload_n 1, 1) := by decide +kernel
theorem dX2_cut_1 : decode cX2_cut 1 = .ok (.invokestatic 29, 3) := by decide +kernel
theorem dX2_cut_4 : decode cX2_cut 4 = .ok (.iload_n 2, 1) := by decide +kernel
theorem dX2_cut_5 : decode cX2_cut 5 = .ok (.invokestatic 33, 3) := by decide +kernel
theorem dX2_cut_8 : decode cX2_cut 8 = .ok (.aload_n 0, 1) := by decide +kernel
theorem dX2_cut_9 : decode cX2_cut 9 = .ok (.iload_n 1, 1) := by decide +kernel
theorem dX2_cut_10 : decode cX2_cut 10 = .ok (.invokevirtual 39, 3) := by decide +kernel
theorem dX2_cut_13 : decode cX2_cut 13 = .ok (.astore_n 3, 1) := by decide +kernel
theorem dX2_cut_14 : decode cX2_cut 14 = .ok (.aload_n 0, 1) := by decide +kernel
theorem dX2_cut_15 : decode cX2_cut 15 = .ok (.iload_n 1, 1) := by decide +kernel
theorem dX2_cut_16 : decode cX2_cut 16 = .ok (.invokevirtual 70, 3) := by decide +kernel
theorem dX2_cut_19 : decode cX2_cut 19 = .ok (.astore 4, 2) := by decide +kernel
theorem dX2_cut_21 : decode cX2_cut 21 = .ok (.aload 4, 2) := by decide +kernel
theorem dX2_cut_23 : decode cX2_cut 23 = .ok (.invokevirtual 47, 3) := by decide +kernel
theorem dX2_cut_26 : decode cX2_cut 26 = .ok (.ifCond .le 13, 3) := by decide +kernel
theorem dX2_cut_29 : decode cX2_cut 29 = .ok (.new 51, 3) := by decide +kernel
theorem dX2_cut_32 : decode cX2_cut 32 = .ok (.dup, 1) := by decide +kernel
theorem dX2_cut_33 : decode cX2_cut 33 = .ok (.ldc 92, 2) := by decide +kernel
theorem dX2_cut_35 : decode cX2_cut 35 = .ok (.invokespecial 55, 3) := by decide +kernel
theorem dX2_cut_38 : decode cX2_cut 38 = .ok (.athrow, 1) := by decide +kernel
theorem dX2_cut_39 : decode cX2_cut 39 = .ok (.aload_n 3, 1) := by decide +kernel
theorem dX2_cut_40 : decode cX2_cut 40 = .ok (.iload_n 2, 1) := by decide +kernel
theorem dX2_cut_41 : decode cX2_cut 41 = .ok (.invokevirtual 94, 3) := by decide +kernel
theorem dX2_cut_44 : decode cX2_cut 44 = .ok (.istore 5, 2) := by decide +kernel
theorem dX2_cut_46 : decode cX2_cut 46 = .ok (.iload 5, 2) := by decide +kernel
theorem dX2_cut_48 : decode cX2_cut 48 = .ok (.istore 6, 2) := by decide +kernel
theorem dX2_cut_50 : decode cX2_cut 50 = .ok (.iload 6, 2) := by decide +kernel
theorem dX2_cut_52 : decode cX2_cut 52 = .ok (.aload_n 3, 1) := by decide +kernel
theorem dX2_cut_53 : decode cX2_cut 53 = .ok (.invokevirtual 47, 3) := by decide +kernel
theorem dX2_cut_56 : decode cX2_cut 56 = .ok (.if_icmp .ge 26, 3) := by decide +kernel
theorem dX2_cut_59 : decode cX2_cut 59 = .ok (.aload 4, 2) := by decide +kernel
theorem dX2_cut_61 : decode cX2_cut 61 = .ok (.aload_n 3, 1) := by decide +kernel
theorem dX2_cut_62 : decode cX2_cut 62 = .ok (.iload 6, 2) := by decide +kernel
theorem dX2_cut_64 : decode cX2_cut 64 = .ok (.invokevirtual 79, 3) := by decide +kernel
theorem dX2_cut_67 : decode cX2_cut 67 = .ok (.aload_n 3, 1) := by decide +kernel
theorem dX2_cut_68 : decode cX2_cut 68 = .ok (.iload 6, 2) := by decide +kernel
theorem dX2_cut_70 : decode cX2_cut 70 = .ok (.invokevirtual 82, 3) := by decide +kernel
theorem dX2_cut_73 : decode cX2_cut 73 = .ok (.invokevirtual 58, 3) := by decide +kernel
theorem dX2_cut_76 : decode cX2_cut 76 = .ok (.iinc 6 1, 3) := by decide +kernel
theorem dX2_cut_79 : decode cX2_cut 79 = .ok (.goto (-29), 3) := by decide +kernel
theorem dX2_cut_82 : decode cX2_cut 82 = .ok (.aload_n 3, 1) := by decide +kernel
theorem dX2_cut_83 : decode cX2_cut 83 = .ok (.iload 5, 2) := by decide +kernel
theorem dX2_cut_85 : decode cX2_cut 85 = .ok (.invokevirtual 89, 3) := by decide +kernel
theorem dX2_cut_88 : decode cX2_cut 88 = .ok (.aload 4, 2) := by decide +kernel
theorem dX2_cut_90 : decode cX2_cut 90 = .ok (.invokevirtual 47, 3) := by decide +kernel
theorem dX2_cut_93 : decode cX2_cut 93 = .ok (.ireturn, 1) := by decide +kernel
theorem dX2_turn_0 : decode cX2_turn 0 = .ok (.iload_n 1, 1) := by decide +kernel
theorem dX2_turn_1 : decode cX2_turn 1 = .ok (.invokestatic 29, 3) := by decide +kernel
theorem dX2_turn_4 : decode cX2_turn 4 = .ok (.iload_n 2, 1) := by decide +kernel
theorem dX2_turn_5 : decode cX2_turn 5 = .ok (.invokestatic 33, 3) := by decide +kernel
theorem dX2_turn_8 : decode cX2_turn 8 = .ok (.aload_n 0, 1) := by decide +kernel
theorem dX2_turn_9 : decode cX2_turn 9 = .ok (.iload_n 1, 1) := by decide +kernel
theorem dX2_turn_10 : decode cX2_turn 10 = .ok (.invokevirtual 39, 3) := by decide +kernel
theorem dX2_turn_13 : decode cX2_turn 13 = .ok (.astore_n 3, 1) := by decide +kernel
theorem dX2_turn_14 : decode cX2_turn 14 = .ok (.aload_n 3, 1) := by decide +kernel
theorem dX2_turn_15 : decode cX2_turn 15 = .ok (.invokestatic 97, 3) := by decide +kernel
theorem dX2_turn_18 : decode cX2_turn 18 = .ok (.aload_n 3, 1) := by decide +kernel
theorem dX2_turn_19 : decode cX2_turn 19 = .ok (.iload_n 2, 1) := by decide +kernel
theorem dX2_turn_20 : decode cX2_turn 20 = .ok (.invokevirtual 101, 3) := by decide +kernel
theorem dX2_turn_23 : decode cX2_turn 23 = .ok (.aload_n 3, 1) := by decide +kernel
theorem dX2_turn_24 : decode cX2_turn 24 = .ok (.iconst 0, 1) := by decide +kernel
theorem dX2_turn_25 : decode cX2_turn 25 = .ok (.invokevirtual 79, 3) := by decide +kernel
theorem dX2_turn_28 : decode cX2_turn 28 = .ok (.ireturn, 1) := by decide +kernel
theorem dX2_miles_0 : decode cX2_miles 0 = .ok (.iload_n 1, 1) := by decide +kernel
theorem dX2_miles_1 : decode cX2_miles 1 = .ok (.invokestatic 29, 3) := by decide +kernel
theorem dX2_miles_4 : decode cX2_miles 4 = .ok (.iload_n 2, 1) := by decide +kernel
theorem dX2_miles_5 : decode cX2_miles 5 = .ok (.invokestatic 33, 3) := by decide +kernel
theorem dX2_miles_8 : decode cX2_miles 8 = .ok (.aload_n 0, 1) := by decide +kernel
theorem dX2_miles_9 : decode cX2_miles 9 = .ok (.iload_n 1, 1) := by decide +kernel
theorem dX2_miles_10 : decode cX2_miles 10 = .ok (.invokevirtual 39, 3) := by decide +kernel
theorem dX2_miles_13 : decode cX2_miles 13 = .ok (.iload_n 2, 1) := by decide +kernel
theorem dX2_miles_14 : decode cX2_miles 14 = .ok (.invokevirtual 43, 3) := by decide +kernel
theorem dX2_miles_17 : decode cX2_miles 17 = .ok (.ireturn, 1) := by decide +kernel
theorem dX2_count_0 : decode cX2_count 0 = .ok (.iload_n 1, 1) := by decide +kernel
theorem dX2_count_1 : decode cX2_count 1 = .ok (.invokestatic 29, 3) := by decide +kernel
theorem dX2_count_4 : decode cX2_count 4 = .ok (.iload_n 2, 1) := by decide +kernel
theorem dX2_count_5 : decode cX2_count 5 = .ok (.bipush 6, 2) := by decide +kernel
theorem dX2_count_7 : decode cX2_count 7 = .ok (.invokestatic 67, 3) := by decide +kernel
theorem dX2_count_10 : decode cX2_count 10 = .ok (.aload_n 0, 1) := by decide +kernel
theorem dX2_count_11 : decode cX2_count 11 = .ok (.iload_n 1, 1) := by decide +kernel
theorem dX2_count_12 : decode cX2_count 12 = .ok (.invokevirtual 39, 3) := by decide +kernel
theorem dX2_count_15 : decode cX2_count 15 = .ok (.astore_n 3, 1) := by decide +kernel
theorem dX2_count_16 : decode cX2_count 16 = .ok (.aload_n 0, 1) := by decide +kernel
theorem dX2_count_17 : decode cX2_count 17 = .ok (.getfield 25, 3) := by decide +kernel
theorem dX2_count_20 : decode cX2_count 20 = .ok (.aload_n 3, 1) := by decide +kernel
theorem dX2_count_21 : decode cX2_count 21 = .ok (.invokevirtual 104, 3) := by decide +kernel
theorem dX2_count_24 : decode cX2_count 24 = .ok (.aload_n 3, 1) := by decide +kernel
theorem dX2_count_25 : decode cX2_count 25 = .ok (.aload_n 0, 1) := by decide +kernel
theorem dX2_count_26 : decode cX2_count 26 = .ok (.getfield 25, 3) := by decide +kernel
theorem dX2_count_29 : decode cX2_count 29 = .ok (.iload_n 2, 1) := by decide +kernel
theorem dX2_count_30 : decode cX2_count 30 = .ok (.invokestatic 107, 3) := by decide +kernel
theorem dX2_count_33 : decode cX2_count 33 = .ok (.ireturn, 1) := by decide +kernel
theorem dX2_sign_0 : decode cX2_sign 0 = .ok (.iload_n 1, 1) := by decide +kernel
theorem dX2_sign_1 : decode cX2_sign 1 = .ok (.invokestatic 29, 3) := by decide +kernel
theorem dX2_sign_4 : decode cX2_sign 4 = .ok (.aload_n 0, 1) := by decide +kernel
theorem dX2_sign_5 : decode cX2_sign 5 = .ok (.getfield 25, 3) := by decide +kernel
theorem dX2_sign_8 : decode cX2_sign 8 = .ok (.aload_n 0, 1) := by decide +kernel
theorem dX2_sign_9 : decode cX2_sign 9 = .ok (.iload_n 1, 1) := by decide +kernel
theorem dX2_sign_10 : decode cX2_sign 10 = .ok (.invokevirtual 39, 3) := by decide +kernel
theorem dX2_sign_13 : decode cX2_sign 13 = .ok (.invokevirtual 104, 3) := by decide +kernel
theorem dX2_sign_16 : decode cX2_sign 16 = .ok (.iload_n 2, 1) := by decide +kernel
theorem dX2_sign_17 : decode cX2_sign 17 = .ok (.aload_n 0, 1) := by decide +kernel
theorem dX2_sign_18 : decode cX2_sign 18 = .ok (.getfield 25, 3) := by decide +kernel
theorem dX2_sign_21 : decode cX2_sign 21 = .ok (.invokevirtual 111, 3) := by decide +kernel
theorem dX2_sign_24 : decode cX2_sign 24 = .ok (.iconst 1, 1) := by decide +kernel
theorem dX2_sign_25 : decode cX2_sign 25 = .ok (.isub, 1) := by decide +kernel
theorem dX2_sign_26 : decode cX2_sign 26 = .ok (.invokestatic 67, 3) := by decide +kernel
theorem dX2_sign_29 : decode cX2_sign 29 = .ok (.iload_n 3, 1) := by decide +kernel
theorem dX2_sign_30 : decode cX2_sign 30 = .ok (.bipush 6, 2) := by decide +kernel
theorem dX2_sign_32 : decode cX2_sign 32 = .ok (.invokestatic 67, 3) := by decide +kernel
theorem dX2_sign_35 : decode cX2_sign 35 = .ok (.aload_n 0, 1) := by decide +kernel
theorem dX2_sign_36 : decode cX2_sign 36 = .ok (.getfield 25, 3) := by decide +kernel
theorem dX2_sign_39 : decode cX2_sign 39 = .ok (.iload_n 2, 1) := by decide +kernel
theorem dX2_sign_40 : decode cX2_sign 40 = .ok (.iload_n 3, 1) := by decide +kernel
theorem dX2_sign_41 : decode cX2_sign 41 = .ok (.invokevirtual 112, 3) := by decide +kernel
theorem dX2_sign_44 : decode cX2_sign 44 = .ok (.ireturn, 1) := by decide +kernel
theorem dX2_walk_0 : decode cX2_walk 0 = .ok (.iload_n 1, 1) := by decide +kernel
theorem dX2_walk_1 : decode cX2_walk 1 = .ok (.invokestatic 29, 3) := by decide +kernel
theorem dX2_walk_4 : decode cX2_walk 4 = .ok (.iload_n 3, 1) := by decide +kernel
theorem dX2_walk_5 : decode cX2_walk 5 = .ok (.iconst 2, 1) := by decide +kernel
theorem dX2_walk_6 : decode cX2_walk 6 = .ok (.invokestatic 67, 3) := by decide +kernel
theorem dX2_walk_9 : decode cX2_walk 9 = .ok (.iload_n 2, 1) := by decide +kernel
theorem dX2_walk_10 : decode cX2_walk 10 = .ok (.invokestatic 33, 3) := by decide +kernel
theorem dX2_walk_13 : decode cX2_walk 13 = .ok (.aload_n 0, 1) := by decide +kernel
theorem dX2_walk_14 : decode cX2_walk 14 = .ok (.iload_n 1, 1) := by decide +kernel
theorem dX2_walk_15 : decode cX2_walk 15 = .ok (.invokevirtual 39, 3) := by decide +kernel
theorem dX2_walk_18 : decode cX2_walk 18 = .ok (.astore 4, 2) := by decide +kernel
theorem dX2_walk_20 : decode cX2_walk 20 = .ok (.aload 4, 2) := by decide +kernel
theorem dX2_walk_22 : decode cX2_walk 22 = .ok (.invokestatic 97, 3) := by decide +kernel
theorem dX2_walk_25 : decode cX2_walk 25 = .ok (.aload_n 0, 1) := by decide +kernel
theorem dX2_walk_26 : decode cX2_walk 26 = .ok (.getfield 25, 3) := by decide +kernel
theorem dX2_walk_29 : decode cX2_walk 29 = .ok (.aload 4, 2) := by decide +kernel
theorem dX2_walk_31 : decode cX2_walk 31 = .ok (.invokevirtual 104, 3) := by decide +kernel
theorem dX2_walk_34 : decode cX2_walk 34 = .ok (.aload_n 0, 1) := by decide +kernel
theorem dX2_walk_35 : decode cX2_walk 35 = .ok (.getfield 25, 3) := by decide +kernel
theorem dX2_walk_38 : decode cX2_walk 38 = .ok (.iload_n 2, 1) := by decide +kernel
theorem dX2_walk_39 : decode cX2_walk 39 = .ok (.iload_n 3, 1) := by decide +kernel
theorem dX2_walk_40 : decode cX2_walk 40 = .ok (.invokevirtual 116, 3) := by decide +kernel
theorem dX2_walk_43 : decode cX2_walk 43 = .ok (.ireturn, 1) := by decide +kernel
theorem dX2_step_0 : decode cX2_step 0 = .ok (.iload_n 1, 1) := by decide +kernel
theorem dX2_step_1 : decode cX2_step 1 = .ok (.invokestatic 29, 3) := by decide +kernel
theorem dX2_step_4 : decode cX2_step 4 = .ok (.iload_n 2, 1) := by decide +kernel
theorem dX2_step_5 : decode cX2_step 5 = .ok (.invokestatic 33, 3) := by decide +kernel
theorem dX2_step_8 : decode cX2_step 8 = .ok (.aload_n 0, 1) := by decide +kernel
theorem dX2_step_9 : decode cX2_step 9 = .ok (.iload_n 1, 1) := by decide +kernel
theorem dX2_step_10 : decode cX2_step 10 = .ok (.invokevirtual 39, 3) := by decide +kernel
theorem dX2_step_13 : decode cX2_step 13 = .ok (.astore 4, 2) := by decide +kernel
theorem dX2_step_15 : decode cX2_step 15 = .ok (.iload_n 3, 1) := by decide +kernel
theorem dX2_step_16 : decode cX2_step 16 = .ok (.ifCond .eq 17, 3) := by decide +kernel
theorem dX2_step_19 : decode cX2_step 19 = .ok (.aload 4, 2) := by decide +kernel
theorem dX2_step_21 : decode cX2_step 21 = .ok (.aload 4, 2) := by decide +kernel
theorem dX2_step_23 : decode cX2_step 23 = .ok (.iload_n 2, 1) := by decide +kernel
theorem dX2_step_24 : decode cX2_step 24 = .ok (.iconst 1, 1) := by decide +kernel
theorem dX2_step_25 : decode cX2_step 25 = .ok (.iadd, 1) := by decide +kernel
theorem dX2_step_26 : decode cX2_step 26 = .ok (.invokevirtual 94, 3) := by decide +kernel
theorem dX2_step_29 : decode cX2_step 29 = .ok (.invokevirtual 79, 3) := by decide +kernel
theorem dX2_step_32 : decode cX2_step 32 = .ok (.ireturn, 1) := by decide +kernel
theorem dX2_step_33 : decode cX2_step 33 = .ok (.aload 4, 2) := by decide +kernel
theorem dX2_step_35 : decode cX2_step 35 = .ok (.aload 4, 2) := by decide +kernel
theorem dX2_step_37 : decode cX2_step 37 = .ok (.iload_n 2, 1) := by decide +kernel
theorem dX2_step_38 : decode cX2_step 38 = .ok (.invokevirtual 94, 3) := by decide +kernel
theorem dX2_step_41 : decode cX2_step 41 = .ok (.iconst 1, 1) := by decide +kernel
theorem dX2_step_42 : decode cX2_step 42 = .ok (.isub, 1) := by decide +kernel
theorem dX2_step_43 : decode cX2_step 43 = .ok (.invokevirtual 79, 3) := by decide +kernel
theorem dX2_step_46 : decode cX2_step 46 = .ok (.ireturn, 1) := by decide +kernel
theorem dX2_at_0 : decode cX2_at 0 = .ok (.iload_n 1, 1) := by decide +kernel
theorem dX2_at_1 : decode cX2_at 1 = .ok (.invokestatic 29, 3) := by decide +kernel
theorem dX2_at_4 : decode cX2_at 4 = .ok (.aload_n 0, 1) := by decide +kernel
theorem dX2_at_5 : decode cX2_at 5 = .ok (.iload_n 1, 1) := by decide +kernel
theorem dX2_at_6 : decode cX2_at 6 = .ok (.invokevirtual 39, 3) := by decide +kernel
theorem dX2_at_9 : decode cX2_at 9 = .ok (.astore_n 3, 1) := by decide +kernel
theorem dX2_at_10 : decode cX2_at 10 = .ok (.iload_n 2, 1) := by decide +kernel
theorem dX2_at_11 : decode cX2_at 11 = .ok (.aload_n 3, 1) := by decide +kernel
theorem dX2_at_12 : decode cX2_at 12 = .ok (.invokevirtual 47, 3) := by decide +kernel
theorem dX2_at_15 : decode cX2_at 15 = .ok (.iconst 1, 1) := by decide +kernel
theorem dX2_at_16 : decode cX2_at 16 = .ok (.isub, 1) := by decide +kernel
theorem dX2_at_17 : decode cX2_at 17 = .ok (.invokestatic 67, 3) := by decide +kernel
theorem dX2_at_20 : decode cX2_at 20 = .ok (.aload_n 3, 1) := by decide +kernel
theorem dX2_at_21 : decode cX2_at 21 = .ok (.iload_n 2, 1) := by decide +kernel
theorem dX2_at_22 : decode cX2_at 22 = .ok (.invokevirtual 79, 3) := by decide +kernel
theorem dX2_at_25 : decode cX2_at 25 = .ok (.ireturn, 1) := by decide +kernel
theorem dX2_range_0 : decode cX2_range 0 = .ok (.iload_n 1, 1) := by decide +kernel
theorem dX2_range_1 : decode cX2_range 1 = .ok (.invokestatic 29, 3) := by decide +kernel
theorem dX2_range_4 : decode cX2_range 4 = .ok (.iload 4, 2) := by decide +kernel
theorem dX2_range_6 : decode cX2_range 6 = .ok (.iconst 3, 1) := by decide +kernel
theorem dX2_range_7 : decode cX2_range 7 = .ok (.invokestatic 67, 3) := by decide +kernel
theorem dX2_range_10 : decode cX2_range 10 = .ok (.iload_n 2, 1) := by decide +kernel
theorem dX2_range_11 : decode cX2_range 11 = .ok (.invokestatic 33, 3) := by decide +kernel
theorem dX2_range_14 : decode cX2_range 14 = .ok (.iload_n 3, 1) := by decide +kernel
theorem dX2_range_15 : decode cX2_range 15 = .ok (.invokestatic 33, 3) := by decide +kernel
theorem dX2_range_18 : decode cX2_range 18 = .ok (.iload_n 2, 1) := by decide +kernel
theorem dX2_range_19 : decode cX2_range 19 = .ok (.iload_n 3, 1) := by decide +kernel
theorem dX2_range_20 : decode cX2_range 20 = .ok (.if_icmp .le 13, 3) := by decide +kernel
theorem dX2_range_23 : decode cX2_range 23 = .ok (.new 119, 3) := by decide +kernel
theorem dX2_range_26 : decode cX2_range 26 = .ok (.dup, 1) := by decide +kernel
theorem dX2_range_27 : decode cX2_range 27 = .ok (.ldc 121, 2) := by decide +kernel
theorem dX2_range_29 : decode cX2_range 29 = .ok (.invokespecial 123, 3) := by decide +kernel
theorem dX2_range_32 : decode cX2_range 32 = .ok (.athrow, 1) := by decide +kernel
theorem dX2_range_33 : decode cX2_range 33 = .ok (.aload_n 0, 1) := by decide +kernel
theorem dX2_range_34 : decode cX2_range 34 = .ok (.iload_n 1, 1) := by decide +kernel
theorem dX2_range_35 : decode cX2_range 35 = .ok (.invokevirtual 39, 3) := by decide +kernel
theorem dX2_range_38 : decode cX2_range 38 = .ok (.astore 5, 2) := by decide +kernel
theorem dX2_range_40 : decode cX2_range 40 = .ok (.aload 5, 2) := by decide +kernel
theorem dX2_range_42 : decode cX2_range 42 = .ok (.iload_n 2, 1) := by decide +kernel
theorem dX2_range_43 : decode cX2_range 43 = .ok (.invokevirtual 94, 3) := by decide +kernel
theorem dX2_range_46 : decode cX2_range 46 = .ok (.istore 6, 2) := by decide +kernel
theorem dX2_range_48 : decode cX2_range 48 = .ok (.aload 5, 2) := by decide +kernel
theorem dX2_range_50 : decode cX2_range 50 = .ok (.iload_n 3, 1) := by decide +kernel
theorem dX2_range_51 : decode cX2_range 51 = .ok (.iconst 1, 1) := by decide +kernel
theorem dX2_range_52 : decode cX2_range 52 = .ok (.iadd, 1) := by decide +kernel
theorem dX2_range_53 : decode cX2_range 53 = .ok (.invokevirtual 94, 3) := by decide +kernel
theorem dX2_range_56 : decode cX2_range 56 = .ok (.istore 7, 2) := by decide +kernel
theorem dX2_range_58 : decode cX2_range 58 = .ok (.iload 4, 2) := by decide +kernel
theorem dX2_range_60 : decode cX2_range 60 = .ok (.tableswitch 54 0 2 #[28, 34, 44], 28) := by decide +kernel
theorem dX2_range_88 : decode cX2_range 88 = .ok (.iload 7, 2) := by decide +kernel
theorem dX2_range_90 : decode cX2_range 90 = .ok (.iload 6, 2) := by decide +kernel
theorem dX2_range_92 : decode cX2_range 92 = .ok (.isub, 1) := by decide +kernel
theorem dX2_range_93 : decode cX2_range 93 = .ok (.ireturn, 1) := by decide +kernel
theorem dX2_range_94 : decode cX2_range 94 = .ok (.aload 5, 2) := by decide +kernel
theorem dX2_range_96 : decode cX2_range 96 = .ok (.iload 6, 2) := by decide +kernel
theorem dX2_range_98 : decode cX2_range 98 = .ok (.iload 7, 2) := by decide +kernel
theorem dX2_range_100 : decode cX2_range 100 = .ok (.invokevirtual 124, 3) := by decide +kernel
theorem dX2_range_103 : decode cX2_range 103 = .ok (.ireturn, 1) := by decide +kernel
theorem dX2_range_104 : decode cX2_range 104 = .ok (.aload 5, 2) := by decide +kernel
theorem dX2_range_106 : decode cX2_range 106 = .ok (.iload 6, 2) := by decide +kernel
theorem dX2_range_108 : decode cX2_range 108 = .ok (.iload 7, 2) := by decide +kernel
theorem dX2_range_110 : decode cX2_range 110 = .ok (.invokevirtual 127, 3) := by decide +kernel
theorem dX2_range_113 : decode cX2_range 113 = .ok (.ireturn, 1) := by decide +kernel
theorem dX2_range_114 : decode cX2_range 114 = .ok (.aload 5, 2) := by decide +kernel
theorem dX2_range_116 : decode cX2_range 116 = .ok (.iload 6, 2) := by decide +kernel
theorem dX2_range_118 : decode cX2_range 118 = .ok (.iload 7, 2) := by decide +kernel
theorem dX2_range_120 : decode cX2_range 120 = .ok (.invokevirtual 130, 3) := by decide +kernel
theorem dX2_range_123 : decode cX2_range 123 = .ok (.ireturn, 1) := by decide +kernel
theorem dX2_near_0 : decode cX2_near 0 = .ok (.iload_n 1, 1) := by decide +kernel
theorem dX2_near_1 : decode cX2_near 1 = .ok (.invokestatic 29, 3) := by decide +kernel
theorem dX2_near_4 : decode cX2_near 4 = .ok (.iload_n 2, 1) := by decide +kernel
theorem dX2_near_5 : decode cX2_near 5 = .ok (.invokestatic 33, 3) := by decide +kernel
theorem dX2_near_8 : decode cX2_near 8 = .ok (.aload_n 0, 1) := by decide +kernel
theorem dX2_near_9 : decode cX2_near 9 = .ok (.iload_n 1, 1) := by decide +kernel
theorem dX2_near_10 : decode cX2_near 10 = .ok (.invokevirtual 39, 3) := by decide +kernel
theorem dX2_near_13 : decode cX2_near 13 = .ok (.iload_n 2, 1) := by decide +kernel
theorem dX2_near_14 : decode cX2_near 14 = .ok (.invokevirtual 133, 3) := by decide +kernel
theorem dX2_near_17 : decode cX2_near 17 = .ok (.ireturn, 1) := by decide +kernel
theorem dX2_far_0 : decode cX2_far 0 = .ok (.iload_n 1, 1) := by decide +kernel
theorem dX2_far_1 : decode cX2_far 1 = .ok (.invokestatic 29, 3) := by decide +kernel
theorem dX2_far_4 : decode cX2_far 4 = .ok (.aload_n 0, 1) := by decide +kernel
theorem dX2_far_5 : decode cX2_far 5 = .ok (.iload_n 1, 1) := by decide +kernel
theorem dX2_far_6 : decode cX2_far 6 = .ok (.invokevirtual 39, 3) := by decide +kernel
theorem dX2_far_9 : decode cX2_far 9 = .ok (.invokevirtual 136, 3) := by decide +kernel
theorem dX2_far_12 : decode cX2_far 12 = .ok (.ireturn, 1) := by decide +kernel
theorem dX2_unlike_0 : decode cX2_unlike 0 = .ok (.iload_n 1, 1) := by decide +kernel
theorem dX2_unlike_1 : decode cX2_unlike 1 = .ok (.invokestatic 33, 3) := by decide +kernel
theorem dX2_unlike_4 : decode cX2_unlike 4 = .ok (.iload_n 2, 1) := by decide +kernel
theorem dX2_unlike_5 : decode cX2_unlike 5 = .ok (.invokestatic 33, 3) := by decide +kernel
theorem dX2_unlike_8 : decode cX2_unlike 8 = .ok (.iload_n 1, 1) := by decide +kernel
theorem dX2_unlike_9 : decode cX2_unlike 9 = .ok (.iload_n 2, 1) := by decide +kernel
theorem dX2_unlike_10 : decode cX2_unlike 10 = .ok (.invokestatic 139, 3) := by decide +kernel
theorem dX2_unlike_13 : decode cX2_unlike 13 = .ok (.ireturn, 1) := by decide +kernel
theorem dX2_would_0 : decode cX2_would 0 = .ok (.iload_n 1, 1) := by decide +kernel
theorem dX2_would_1 : decode cX2_would 1 = .ok (.iconst 3, 1) := by decide +kernel
theorem dX2_would_2 : decode cX2_would 2 = .ok (.invokestatic 67, 3) := by decide +kernel
theorem dX2_would_5 : decode cX2_would 5 = .ok (.aload_n 0, 1) := by decide +kernel
theorem dX2_would_6 : decode cX2_would 6 = .ok (.invokevirtual 142, 3) := by decide +kernel
theorem dX2_would_9 : decode cX2_would 9 = .ok (.aload_n 0, 1) := by decide +kernel
theorem dX2_would_10 : decode cX2_would 10 = .ok (.getfield 25, 3) := by decide +kernel
theorem dX2_would_13 : decode cX2_would 13 = .ok (.aload_n 0, 1) := by decide +kernel
theorem dX2_would_14 : decode cX2_would 14 = .ok (.getfield 19, 3) := by decide +kernel
theorem dX2_would_17 : decode cX2_would 17 = .ok (.invokevirtual 104, 3) := by decide +kernel
theorem dX2_would_20 : decode cX2_would 20 = .ok (.aload_n 0, 1) := by decide +kernel
theorem dX2_would_21 : decode cX2_would 21 = .ok (.getfield 19, 3) := by decide +kernel
theorem dX2_would_24 : decode cX2_would 24 = .ok (.aload_n 0, 1) := by decide +kernel
theorem dX2_would_25 : decode cX2_would 25 = .ok (.getfield 25, 3) := by decide +kernel
theorem dX2_would_28 : decode cX2_would 28 = .ok (.iload_n 1, 1) := by decide +kernel
theorem dX2_would_29 : decode cX2_would 29 = .ok (.invokestatic 107, 3) := by decide +kernel
theorem dX2_would_32 : decode cX2_would 32 = .ok (.ireturn, 1) := by decide +kernel
theorem dX2_advise_0 : decode cX2_advise 0 = .ok (.iload_n 1, 1) := by decide +kernel
theorem dX2_advise_1 : decode cX2_advise 1 = .ok (.invokestatic 29, 3) := by decide +kernel
theorem dX2_advise_4 : decode cX2_advise 4 = .ok (.aload_n 0, 1) := by decide +kernel
theorem dX2_advise_5 : decode cX2_advise 5 = .ok (.getfield 25, 3) := by decide +kernel
theorem dX2_advise_8 : decode cX2_advise 8 = .ok (.aload_n 0, 1) := by decide +kernel
theorem dX2_advise_9 : decode cX2_advise 9 = .ok (.iload_n 1, 1) := by decide +kernel
theorem dX2_advise_10 : decode cX2_advise 10 = .ok (.invokevirtual 39, 3) := by decide +kernel
theorem dX2_advise_13 : decode cX2_advise 13 = .ok (.invokevirtual 104, 3) := by decide +kernel
theorem dX2_advise_16 : decode cX2_advise 16 = .ok (.aload_n 0, 1) := by decide +kernel
theorem dX2_advise_17 : decode cX2_advise 17 = .ok (.getfield 25, 3) := by decide +kernel
theorem dX2_advise_20 : decode cX2_advise 20 = .ok (.invokevirtual 145, 3) := by decide +kernel
theorem dX2_advise_23 : decode cX2_advise 23 = .ok (.ireturn, 1) := by decide +kernel
theorem dX2_mean_0 : decode cX2_mean 0 = .ok (.iload_n 1, 1) := by decide +kernel
theorem dX2_mean_1 : decode cX2_mean 1 = .ok (.invokestatic 29, 3) := by decide +kernel
theorem dX2_mean_4 : decode cX2_mean 4 = .ok (.aload_n 0, 1) := by decide +kernel
theorem dX2_mean_5 : decode cX2_mean 5 = .ok (.iload_n 1, 1) := by decide +kernel
theorem dX2_mean_6 : decode cX2_mean 6 = .ok (.invokevirtual 39, 3) := by decide +kernel
theorem dX2_mean_9 : decode cX2_mean 9 = .ok (.astore_n 2, 1) := by decide +kernel
theorem dX2_mean_10 : decode cX2_mean 10 = .ok (.aload_n 2, 1) := by decide +kernel
theorem dX2_mean_11 : decode cX2_mean 11 = .ok (.invokevirtual 47, 3) := by decide +kernel
theorem dX2_mean_14 : decode cX2_mean 14 = .ok (.istore_n 3, 1) := by decide +kernel
theorem dX2_mean_15 : decode cX2_mean 15 = .ok (.iload_n 3, 1) := by decide +kernel
theorem dX2_mean_16 : decode cX2_mean 16 = .ok (.ifCond .ne 5, 3) := by decide +kernel
theorem dX2_mean_19 : decode cX2_mean 19 = .ok (.dconst 0, 1) := by decide +kernel
theorem dX2_mean_20 : decode cX2_mean 20 = .ok (.dreturn, 1) := by decide +kernel
theorem dX2_mean_21 : decode cX2_mean 21 = .ok (.aload_n 0, 1) := by decide +kernel
theorem dX2_mean_22 : decode cX2_mean 22 = .ok (.getfield 25, 3) := by decide +kernel
theorem dX2_mean_25 : decode cX2_mean 25 = .ok (.aload_n 2, 1) := by decide +kernel
theorem dX2_mean_26 : decode cX2_mean 26 = .ok (.invokevirtual 104, 3) := by decide +kernel
theorem dX2_mean_29 : decode cX2_mean 29 = .ok (.aload_n 0, 1) := by decide +kernel
theorem dX2_mean_30 : decode cX2_mean 30 = .ok (.getfield 25, 3) := by decide +kernel
theorem dX2_mean_33 : decode cX2_mean 33 = .ok (.invokevirtual 148, 3) := by decide +kernel
theorem dX2_mean_36 : decode cX2_mean 36 = .ok (.i2d, 1) := by decide +kernel
theorem dX2_mean_37 : decode cX2_mean 37 = .ok (.iload_n 3, 1) := by decide +kernel
theorem dX2_mean_38 : decode cX2_mean 38 = .ok (.i2d, 1) := by decide +kernel
theorem dX2_mean_39 : decode cX2_mean 39 = .ok (.ddiv, 1) := by decide +kernel
theorem dX2_mean_40 : decode cX2_mean 40 = .ok (.dreturn, 1) := by decide +kernel
theorem dX2_digest_0 : decode cX2_digest 0 = .ok (.aload_n 0, 1) := by decide +kernel
theorem dX2_digest_1 : decode cX2_digest 1 = .ok (.ldc2_w 151, 3) := by decide +kernel
theorem dX2_digest_4 : decode cX2_digest 4 = .ok (.aload_n 0, 1) := by decide +kernel
theorem dX2_digest_5 : decode cX2_digest 5 = .ok (.getfield 12, 3) := by decide +kernel
theorem dX2_digest_8 : decode cX2_digest 8 = .ok (.invokevirtual 153, 3) := by decide +kernel
theorem dX2_digest_11 : decode cX2_digest 11 = .ok (.lstore_n 1, 1) := by decide +kernel
theorem dX2_digest_12 : decode cX2_digest 12 = .ok (.aload_n 0, 1) := by decide +kernel
theorem dX2_digest_13 : decode cX2_digest 13 = .ok (.lload_n 1, 1) := by decide +kernel
theorem dX2_digest_14 : decode cX2_digest 14 = .ok (.aload_n 0, 1) := by decide +kernel
theorem dX2_digest_15 : decode cX2_digest 15 = .ok (.getfield 16, 3) := by decide +kernel
theorem dX2_digest_18 : decode cX2_digest 18 = .ok (.invokevirtual 153, 3) := by decide +kernel
theorem dX2_digest_21 : decode cX2_digest 21 = .ok (.lstore_n 1, 1) := by decide +kernel
theorem dX2_digest_22 : decode cX2_digest 22 = .ok (.aload_n 0, 1) := by decide +kernel
theorem dX2_digest_23 : decode cX2_digest 23 = .ok (.invokevirtual 142, 3) := by decide +kernel
theorem dX2_digest_26 : decode cX2_digest 26 = .ok (.aload_n 0, 1) := by decide +kernel
theorem dX2_digest_27 : decode cX2_digest 27 = .ok (.getfield 25, 3) := by decide +kernel
theorem dX2_digest_30 : decode cX2_digest 30 = .ok (.aload_n 0, 1) := by decide +kernel
theorem dX2_digest_31 : decode cX2_digest 31 = .ok (.getfield 19, 3) := by decide +kernel
theorem dX2_digest_34 : decode cX2_digest 34 = .ok (.invokevirtual 104, 3) := by decide +kernel
theorem dX2_digest_37 : decode cX2_digest 37 = .ok (.iconst 0, 1) := by decide +kernel
theorem dX2_digest_38 : decode cX2_digest 38 = .ok (.istore_n 3, 1) := by decide +kernel
theorem dX2_digest_39 : decode cX2_digest 39 = .ok (.iload_n 3, 1) := by decide +kernel
theorem dX2_digest_40 : decode cX2_digest 40 = .ok (.iconst 3, 1) := by decide +kernel
theorem dX2_digest_41 : decode cX2_digest 41 = .ok (.if_icmp .gt 26, 3) := by decide +kernel
theorem dX2_digest_44 : decode cX2_digest 44 = .ok (.lload_n 1, 1) := by decide +kernel
theorem dX2_digest_45 : decode cX2_digest 45 = .ok (.aload_n 0, 1) := by decide +kernel
theorem dX2_digest_46 : decode cX2_digest 46 = .ok (.getfield 19, 3) := by decide +kernel
theorem dX2_digest_49 : decode cX2_digest 49 = .ok (.aload_n 0, 1) := by decide +kernel
theorem dX2_digest_50 : decode cX2_digest 50 = .ok (.getfield 25, 3) := by decide +kernel
theorem dX2_digest_53 : decode cX2_digest 53 = .ok (.iload_n 3, 1) := by decide +kernel
theorem dX2_digest_54 : decode cX2_digest 54 = .ok (.invokestatic 107, 3) := by decide +kernel
theorem dX2_digest_57 : decode cX2_digest 57 = .ok (.invokestatic 157, 3) := by decide +kernel
theorem dX2_digest_60 : decode cX2_digest 60 = .ok (.lstore_n 1, 1) := by decide +kernel
theorem dX2_digest_61 : decode cX2_digest 61 = .ok (.iinc 3 1, 3) := by decide +kernel
theorem dX2_digest_64 : decode cX2_digest 64 = .ok (.goto (-25), 3) := by decide +kernel
theorem dX2_digest_67 : decode cX2_digest 67 = .ok (.lload_n 1, 1) := by decide +kernel
theorem dX2_digest_68 : decode cX2_digest 68 = .ok (.lreturn, 1) := by decide +kernel
theorem dX2_digestOfWood_0 : decode cX2_digestOfWood 0 = .ok (.lload_n 1, 1) := by decide +kernel
theorem dX2_digestOfWood_1 : decode cX2_digestOfWood 1 = .ok (.lstore 4, 2) := by decide +kernel
theorem dX2_digestOfWood_3 : decode cX2_digestOfWood 3 = .ok (.aload_n 0, 1) := by decide +kernel
theorem dX2_digestOfWood_4 : decode cX2_digestOfWood 4 = .ok (.getfield 25, 3) := by decide +kernel
theorem dX2_digestOfWood_7 : decode cX2_digestOfWood 7 = .ok (.aload_n 3, 1) := by decide +kernel
theorem dX2_digestOfWood_8 : decode cX2_digestOfWood 8 = .ok (.invokevirtual 104, 3) := by decide +kernel
theorem dX2_digestOfWood_11 : decode cX2_digestOfWood 11 = .ok (.iconst 0, 1) := by decide +kernel
theorem dX2_digestOfWood_12 : decode cX2_digestOfWood 12 = .ok (.istore 6, 2) := by decide +kernel
theorem dX2_digestOfWood_14 : decode cX2_digestOfWood 14 = .ok (.iload 6, 2) := by decide +kernel
theorem dX2_digestOfWood_16 : decode cX2_digestOfWood 16 = .ok (.bipush 6, 2) := by decide +kernel
theorem dX2_digestOfWood_18 : decode cX2_digestOfWood 18 = .ok (.if_icmp .gt 26, 3) := by decide +kernel
theorem dX2_digestOfWood_21 : decode cX2_digestOfWood 21 = .ok (.lload 4, 2) := by decide +kernel
theorem dX2_digestOfWood_23 : decode cX2_digestOfWood 23 = .ok (.aload_n 3, 1) := by decide +kernel
theorem dX2_digestOfWood_24 : decode cX2_digestOfWood 24 = .ok (.aload_n 0, 1) := by decide +kernel
theorem dX2_digestOfWood_25 : decode cX2_digestOfWood 25 = .ok (.getfield 25, 3) := by decide +kernel
theorem dX2_digestOfWood_28 : decode cX2_digestOfWood 28 = .ok (.iload 6, 2) := by decide +kernel
theorem dX2_digestOfWood_30 : decode cX2_digestOfWood 30 = .ok (.invokestatic 107, 3) := by decide +kernel
theorem dX2_digestOfWood_33 : decode cX2_digestOfWood 33 = .ok (.invokestatic 157, 3) := by decide +kernel
theorem dX2_digestOfWood_36 : decode cX2_digestOfWood 36 = .ok (.lstore 4, 2) := by decide +kernel
theorem dX2_digestOfWood_38 : decode cX2_digestOfWood 38 = .ok (.iinc 6 1, 3) := by decide +kernel
theorem dX2_digestOfWood_41 : decode cX2_digestOfWood 41 = .ok (.goto (-27), 3) := by decide +kernel
theorem dX2_digestOfWood_44 : decode cX2_digestOfWood 44 = .ok (.lload 4, 2) := by decide +kernel
theorem dX2_digestOfWood_46 : decode cX2_digestOfWood 46 = .ok (.aload_n 3, 1) := by decide +kernel
theorem dX2_digestOfWood_47 : decode cX2_digestOfWood 47 = .ok (.invokevirtual 136, 3) := by decide +kernel
theorem dX2_digestOfWood_50 : decode cX2_digestOfWood 50 = .ok (.invokestatic 157, 3) := by decide +kernel
theorem dX2_digestOfWood_53 : decode cX2_digestOfWood 53 = .ok (.lstore 4, 2) := by decide +kernel
theorem dX2_digestOfWood_55 : decode cX2_digestOfWood 55 = .ok (.iconst 0, 1) := by decide +kernel
theorem dX2_digestOfWood_56 : decode cX2_digestOfWood 56 = .ok (.istore 6, 2) := by decide +kernel
theorem dX2_digestOfWood_58 : decode cX2_digestOfWood 58 = .ok (.iload 6, 2) := by decide +kernel
theorem dX2_digestOfWood_60 : decode cX2_digestOfWood 60 = .ok (.aload_n 0, 1) := by decide +kernel
theorem dX2_digestOfWood_61 : decode cX2_digestOfWood 61 = .ok (.getfield 25, 3) := by decide +kernel
theorem dX2_digestOfWood_64 : decode cX2_digestOfWood 64 = .ok (.invokevirtual 111, 3) := by decide +kernel
theorem dX2_digestOfWood_67 : decode cX2_digestOfWood 67 = .ok (.if_icmp .ge 43, 3) := by decide +kernel
theorem dX2_digestOfWood_70 : decode cX2_digestOfWood 70 = .ok (.iconst 0, 1) := by decide +kernel
theorem dX2_digestOfWood_71 : decode cX2_digestOfWood 71 = .ok (.istore 7, 2) := by decide +kernel
theorem dX2_digestOfWood_73 : decode cX2_digestOfWood 73 = .ok (.iload 7, 2) := by decide +kernel
theorem dX2_digestOfWood_75 : decode cX2_digestOfWood 75 = .ok (.bipush 6, 2) := by decide +kernel
theorem dX2_digestOfWood_77 : decode cX2_digestOfWood 77 = .ok (.if_icmp .gt 27, 3) := by decide +kernel
theorem dX2_digestOfWood_80 : decode cX2_digestOfWood 80 = .ok (.lload 4, 2) := by decide +kernel
theorem dX2_digestOfWood_82 : decode cX2_digestOfWood 82 = .ok (.aload_n 0, 1) := by decide +kernel
theorem dX2_digestOfWood_83 : decode cX2_digestOfWood 83 = .ok (.getfield 25, 3) := by decide +kernel
theorem dX2_digestOfWood_86 : decode cX2_digestOfWood 86 = .ok (.iload 6, 2) := by decide +kernel
theorem dX2_digestOfWood_88 : decode cX2_digestOfWood 88 = .ok (.iload 7, 2) := by decide +kernel
theorem dX2_digestOfWood_90 : decode cX2_digestOfWood 90 = .ok (.invokevirtual 112, 3) := by decide +kernel
theorem dX2_digestOfWood_93 : decode cX2_digestOfWood 93 = .ok (.invokestatic 157, 3) := by decide +kernel
theorem dX2_digestOfWood_96 : decode cX2_digestOfWood 96 = .ok (.lstore 4, 2) := by decide +kernel
theorem dX2_digestOfWood_98 : decode cX2_digestOfWood 98 = .ok (.iinc 7 1, 3) := by decide +kernel
theorem dX2_digestOfWood_101 : decode cX2_digestOfWood 101 = .ok (.goto (-28), 3) := by decide +kernel
theorem dX2_digestOfWood_104 : decode cX2_digestOfWood 104 = .ok (.iinc 6 1, 3) := by decide +kernel
theorem dX2_digestOfWood_107 : decode cX2_digestOfWood 107 = .ok (.goto (-49), 3) := by decide +kernel
theorem dX2_digestOfWood_110 : decode cX2_digestOfWood 110 = .ok (.iconst 0, 1) := by decide +kernel
theorem dX2_digestOfWood_111 : decode cX2_digestOfWood 111 = .ok (.istore 6, 2) := by decide +kernel
theorem dX2_digestOfWood_113 : decode cX2_digestOfWood 113 = .ok (.iload 6, 2) := by decide +kernel
theorem dX2_digestOfWood_115 : decode cX2_digestOfWood 115 = .ok (.aload_n 3, 1) := by decide +kernel
theorem dX2_digestOfWood_116 : decode cX2_digestOfWood 116 = .ok (.invokevirtual 47, 3) := by decide +kernel
theorem dX2_digestOfWood_119 : decode cX2_digestOfWood 119 = .ok (.if_icmp .ge 22, 3) := by decide +kernel
theorem dX2_digestOfWood_122 : decode cX2_digestOfWood 122 = .ok (.lload 4, 2) := by decide +kernel
theorem dX2_digestOfWood_124 : decode cX2_digestOfWood 124 = .ok (.aload_n 3, 1) := by decide +kernel
theorem dX2_digestOfWood_125 : decode cX2_digestOfWood 125 = .ok (.iload 6, 2) := by decide +kernel
theorem dX2_digestOfWood_127 : decode cX2_digestOfWood 127 = .ok (.invokevirtual 82, 3) := by decide +kernel
theorem dX2_digestOfWood_130 : decode cX2_digestOfWood 130 = .ok (.invokestatic 157, 3) := by decide +kernel
theorem dX2_digestOfWood_133 : decode cX2_digestOfWood 133 = .ok (.lstore 4, 2) := by decide +kernel
theorem dX2_digestOfWood_135 : decode cX2_digestOfWood 135 = .ok (.iinc 6 1, 3) := by decide +kernel
theorem dX2_digestOfWood_138 : decode cX2_digestOfWood 138 = .ok (.goto (-25), 3) := by decide +kernel
theorem dX2_digestOfWood_141 : decode cX2_digestOfWood 141 = .ok (.lload 4, 2) := by decide +kernel
theorem dX2_digestOfWood_143 : decode cX2_digestOfWood 143 = .ok (.lreturn, 1) := by decide +kernel
theorem dX2_digested_0 : decode cX2_digested 0 = .ok (.lload_n 0, 1) := by decide +kernel
theorem dX2_digested_1 : decode cX2_digested 1 = .ok (.ldc2_w 161, 3) := by decide +kernel
theorem dX2_digested_4 : decode cX2_digested 4 = .ok (.lmul, 1) := by decide +kernel
theorem dX2_digested_5 : decode cX2_digested 5 = .ok (.iload_n 2, 1) := by decide +kernel
theorem dX2_digested_6 : decode cX2_digested 6 = .ok (.i2l, 1) := by decide +kernel
theorem dX2_digested_7 : decode cX2_digested 7 = .ok (.ladd, 1) := by decide +kernel
theorem dX2_digested_8 : decode cX2_digested 8 = .ok (.lreturn, 1) := by decide +kernel
theorem dX2_villagesOf_0 : decode cX2_villagesOf 0 = .ok (.iload_n 1, 1) := by decide +kernel
theorem dX2_villagesOf_1 : decode cX2_villagesOf 1 = .ok (.ifCond .ne 10, 3) := by decide +kernel
theorem dX2_villagesOf_4 : decode cX2_villagesOf 4 = .ok (.aload_n 0, 1) := by decide +kernel
theorem dX2_villagesOf_5 : decode cX2_villagesOf 5 = .ok (.getfield 12, 3) := by decide +kernel
theorem dX2_villagesOf_8 : decode cX2_villagesOf 8 = .ok (.goto 7, 3) := by decide +kernel
theorem dX2_villagesOf_11 : decode cX2_villagesOf 11 = .ok (.aload_n 0, 1) := by decide +kernel
theorem dX2_villagesOf_12 : decode cX2_villagesOf 12 = .ok (.getfield 16, 3) := by decide +kernel
theorem dX2_villagesOf_15 : decode cX2_villagesOf 15 = .ok (.areturn, 1) := by decide +kernel
theorem dX2_otherThan_0 : decode cX2_otherThan 0 = .ok (.iload_n 1, 1) := by decide +kernel
theorem dX2_otherThan_1 : decode cX2_otherThan 1 = .ok (.ifCond .ne 10, 3) := by decide +kernel
theorem dX2_otherThan_4 : decode cX2_otherThan 4 = .ok (.aload_n 0, 1) := by decide +kernel
theorem dX2_otherThan_5 : decode cX2_otherThan 5 = .ok (.getfield 16, 3) := by decide +kernel
theorem dX2_otherThan_8 : decode cX2_otherThan 8 = .ok (.goto 7, 3) := by decide +kernel
theorem dX2_otherThan_11 : decode cX2_otherThan 11 = .ok (.aload_n 0, 1) := by decide +kernel
theorem dX2_otherThan_12 : decode cX2_otherThan 12 = .ok (.getfield 12, 3) := by decide +kernel
theorem dX2_otherThan_15 : decode cX2_otherThan 15 = .ok (.areturn, 1) := by decide +kernel
theorem dX2_fillBoth_0 : decode cX2_fillBoth 0 = .ok (.aload_n 0, 1) := by decide +kernel
theorem dX2_fillBoth_1 : decode cX2_fillBoth 1 = .ok (.getfield 19, 3) := by decide +kernel
theorem dX2_fillBoth_4 : decode cX2_fillBoth 4 = .ok (.iconst 0, 1) := by decide +kernel
theorem dX2_fillBoth_5 : decode cX2_fillBoth 5 = .ok (.invokevirtual 89, 3) := by decide +kernel
theorem dX2_fillBoth_8 : decode cX2_fillBoth 8 = .ok (.aload_n 0, 1) := by decide +kernel
theorem dX2_fillBoth_9 : decode cX2_fillBoth 9 = .ok (.getfield 19, 3) := by decide +kernel
theorem dX2_fillBoth_12 : decode cX2_fillBoth 12 = .ok (.aload_n 0, 1) := by decide +kernel
theorem dX2_fillBoth_13 : decode cX2_fillBoth 13 = .ok (.getfield 12, 3) := by decide +kernel
theorem dX2_fillBoth_16 : decode cX2_fillBoth 16 = .ok (.invokevirtual 163, 3) := by decide +kernel
theorem dX2_fillBoth_19 : decode cX2_fillBoth 19 = .ok (.aload_n 0, 1) := by decide +kernel
theorem dX2_fillBoth_20 : decode cX2_fillBoth 20 = .ok (.getfield 19, 3) := by decide +kernel
theorem dX2_fillBoth_23 : decode cX2_fillBoth 23 = .ok (.aload_n 0, 1) := by decide +kernel
theorem dX2_fillBoth_24 : decode cX2_fillBoth 24 = .ok (.getfield 16, 3) := by decide +kernel
theorem dX2_fillBoth_27 : decode cX2_fillBoth 27 = .ok (.invokevirtual 163, 3) := by decide +kernel
theorem dX2_fillBoth_30 : decode cX2_fillBoth 30 = .ok (.return_, 1) := by decide +kernel
theorem dX2_countOf_0 : decode cX2_countOf 0 = .ok (.iload_n 2, 1) := by decide +kernel
theorem dX2_countOf_1 : decode cX2_countOf 1 = .ok (.tableswitch 74 0 5 #[39, 44, 49, 54, 59, 69], 39) := by decide +kernel
theorem dX2_countOf_40 : decode cX2_countOf 40 = .ok (.aload_n 0, 1) := by decide +kernel
theorem dX2_countOf_41 : decode cX2_countOf 41 = .ok (.invokevirtual 47, 3) := by decide +kernel
theorem dX2_countOf_44 : decode cX2_countOf 44 = .ok (.ireturn, 1) := by decide +kernel
theorem dX2_countOf_45 : decode cX2_countOf 45 = .ok (.aload_n 1, 1) := by decide +kernel
theorem dX2_countOf_46 : decode cX2_countOf 46 = .ok (.invokevirtual 166, 3) := by decide +kernel
theorem dX2_countOf_49 : decode cX2_countOf 49 = .ok (.ireturn, 1) := by decide +kernel
theorem dX2_countOf_50 : decode cX2_countOf 50 = .ok (.aload_n 1, 1) := by decide +kernel
theorem dX2_countOf_51 : decode cX2_countOf 51 = .ok (.invokevirtual 169, 3) := by decide +kernel
theorem dX2_countOf_54 : decode cX2_countOf 54 = .ok (.ireturn, 1) := by decide +kernel
theorem dX2_countOf_55 : decode cX2_countOf 55 = .ok (.aload_n 1, 1) := by decide +kernel
theorem dX2_countOf_56 : decode cX2_countOf 56 = .ok (.invokevirtual 148, 3) := by decide +kernel
theorem dX2_countOf_59 : decode cX2_countOf 59 = .ok (.ireturn, 1) := by decide +kernel
theorem dX2_countOf_60 : decode cX2_countOf 60 = .ok (.aload_n 0, 1) := by decide +kernel
theorem dX2_countOf_61 : decode cX2_countOf 61 = .ok (.iconst 0, 1) := by decide +kernel
theorem dX2_countOf_62 : decode cX2_countOf 62 = .ok (.aload_n 0, 1) := by decide +kernel
theorem dX2_countOf_63 : decode cX2_countOf 63 = .ok (.invokevirtual 47, 3) := by decide +kernel
theorem dX2_countOf_66 : decode cX2_countOf 66 = .ok (.invokevirtual 127, 3) := by decide +kernel
theorem dX2_countOf_69 : decode cX2_countOf 69 = .ok (.ireturn, 1) := by decide +kernel
theorem dX2_countOf_70 : decode cX2_countOf 70 = .ok (.aload_n 1, 1) := by decide +kernel
theorem dX2_countOf_71 : decode cX2_countOf 71 = .ok (.invokevirtual 172, 3) := by decide +kernel
theorem dX2_countOf_74 : decode cX2_countOf 74 = .ok (.ireturn, 1) := by decide +kernel
theorem dX2_countOf_75 : decode cX2_countOf 75 = .ok (.aload_n 0, 1) := by decide +kernel
theorem dX2_countOf_76 : decode cX2_countOf 76 = .ok (.iconst 0, 1) := by decide +kernel
theorem dX2_countOf_77 : decode cX2_countOf 77 = .ok (.aload_n 0, 1) := by decide +kernel
theorem dX2_countOf_78 : decode cX2_countOf 78 = .ok (.invokevirtual 47, 3) := by decide +kernel
theorem dX2_countOf_81 : decode cX2_countOf 81 = .ok (.invokevirtual 124, 3) := by decide +kernel
theorem dX2_countOf_84 : decode cX2_countOf 84 = .ok (.ireturn, 1) := by decide +kernel
theorem dX2_mergedMiles_0 : decode cX2_mergedMiles 0 = .ok (.iload_n 2, 1) := by decide +kernel
theorem dX2_mergedMiles_1 : decode cX2_mergedMiles 1 = .ok (.iconst (-1), 1) := by decide +kernel
theorem dX2_mergedMiles_2 : decode cX2_mergedMiles 2 = .ok (.if_icmp .ne 5, 3) := by decide +kernel
theorem dX2_mergedMiles_5 : decode cX2_mergedMiles 5 = .ok (.iload_n 1, 1) := by decide +kernel
theorem dX2_mergedMiles_6 : decode cX2_mergedMiles 6 = .ok (.ireturn, 1) := by decide +kernel
theorem dX2_mergedMiles_7 : decode cX2_mergedMiles 7 = .ok (.iload_n 0, 1) := by decide +kernel
theorem dX2_mergedMiles_8 : decode cX2_mergedMiles 8 = .ok (.tableswitch 42 0 2 #[28, 30, 32], 28) := by decide +kernel
theorem dX2_mergedMiles_36 : decode cX2_mergedMiles 36 = .ok (.iload_n 1, 1) := by decide +kernel
theorem dX2_mergedMiles_37 : decode cX2_mergedMiles 37 = .ok (.ireturn, 1) := by decide +kernel
theorem dX2_mergedMiles_38 : decode cX2_mergedMiles 38 = .ok (.iload_n 2, 1) := by decide +kernel
theorem dX2_mergedMiles_39 : decode cX2_mergedMiles 39 = .ok (.ireturn, 1) := by decide +kernel
theorem dX2_mergedMiles_40 : decode cX2_mergedMiles 40 = .ok (.iload_n 1, 1) := by decide +kernel
theorem dX2_mergedMiles_41 : decode cX2_mergedMiles 41 = .ok (.iload_n 2, 1) := by decide +kernel
theorem dX2_mergedMiles_42 : decode cX2_mergedMiles 42 = .ok (.iadd, 1) := by decide +kernel
theorem dX2_mergedMiles_43 : decode cX2_mergedMiles 43 = .ok (.sipush 999, 3) := by decide +kernel
theorem dX2_mergedMiles_46 : decode cX2_mergedMiles 46 = .ok (.invokestatic 175, 3) := by decide +kernel
theorem dX2_mergedMiles_49 : decode cX2_mergedMiles 49 = .ok (.ireturn, 1) := by decide +kernel
theorem dX2_mergedMiles_50 : decode cX2_mergedMiles 50 = .ok (.iload_n 1, 1) := by decide +kernel
theorem dX2_mergedMiles_51 : decode cX2_mergedMiles 51 = .ok (.iload_n 2, 1) := by decide +kernel
theorem dX2_mergedMiles_52 : decode cX2_mergedMiles 52 = .ok (.invokestatic 175, 3) := by decide +kernel
theorem dX2_mergedMiles_55 : decode cX2_mergedMiles 55 = .ok (.ireturn, 1) := by decide +kernel
theorem dX2_checkWood_0 : decode cX2_checkWood 0 = .ok (.iload_n 0, 1) := by decide +kernel
theorem dX2_checkWood_1 : decode cX2_checkWood 1 = .ok (.iconst 1, 1) := by decide +kernel
theorem dX2_checkWood_2 : decode cX2_checkWood 2 = .ok (.invokestatic 67, 3) := by decide +kernel
theorem dX2_checkWood_5 : decode cX2_checkWood 5 = .ok (.return_, 1) := by decide +kernel
theorem dX2_checkIndex_0 : decode cX2_checkIndex 0 = .ok (.iload_n 0, 1) := by decide +kernel
theorem dX2_checkIndex_1 : decode cX2_checkIndex 1 = .ok (.ifCond .lt 8, 3) := by decide +kernel
theorem dX2_checkIndex_4 : decode cX2_checkIndex 4 = .ok (.iload_n 0, 1) := by decide +kernel
theorem dX2_checkIndex_5 : decode cX2_checkIndex 5 = .ok (.iload_n 1, 1) := by decide +kernel
theorem dX2_checkIndex_6 : decode cX2_checkIndex 6 = .ok (.if_icmp .le 13, 3) := by decide +kernel
theorem dX2_checkIndex_9 : decode cX2_checkIndex 9 = .ok (.new 180, 3) := by decide +kernel
theorem dX2_checkIndex_12 : decode cX2_checkIndex 12 = .ok (.dup, 1) := by decide +kernel
theorem dX2_checkIndex_13 : decode cX2_checkIndex 13 = .ok (.ldc 182, 2) := by decide +kernel
theorem dX2_checkIndex_15 : decode cX2_checkIndex 15 = .ok (.invokespecial 184, 3) := by decide +kernel
theorem dX2_checkIndex_18 : decode cX2_checkIndex 18 = .ok (.athrow, 1) := by decide +kernel
theorem dX2_checkIndex_19 : decode cX2_checkIndex 19 = .ok (.return_, 1) := by decide +kernel
theorem dX2_checkName_0 : decode cX2_checkName 0 = .ok (.iload_n 0, 1) := by decide +kernel
theorem dX2_checkName_1 : decode cX2_checkName 1 = .ok (.ifCond .lt 9, 3) := by decide +kernel
theorem dX2_checkName_4 : decode cX2_checkName 4 = .ok (.iload_n 0, 1) := by decide +kernel
theorem dX2_checkName_5 : decode cX2_checkName 5 = .ok (.ldc 185, 2) := by decide +kernel
theorem dX2_checkName_7 : decode cX2_checkName 7 = .ok (.if_icmp .le 13, 3) := by decide +kernel
theorem dX2_checkName_10 : decode cX2_checkName 10 = .ok (.new 119, 3) := by decide +kernel
theorem dX2_checkName_13 : decode cX2_checkName 13 = .ok (.dup, 1) := by decide +kernel
theorem dX2_checkName_14 : decode cX2_checkName 14 = .ok (.ldc 186, 2) := by decide +kernel
theorem dX2_checkName_16 : decode cX2_checkName 16 = .ok (.invokespecial 123, 3) := by decide +kernel
theorem dX2_checkName_19 : decode cX2_checkName 19 = .ok (.athrow, 1) := by decide +kernel
theorem dX2_checkName_20 : decode cX2_checkName 20 = .ok (.return_, 1) := by decide +kernel
theorem dX2_checkMiles_0 : decode cX2_checkMiles 0 = .ok (.iload_n 0, 1) := by decide +kernel
theorem dX2_checkMiles_1 : decode cX2_checkMiles 1 = .ok (.ifCond .lt 10, 3) := by decide +kernel
theorem dX2_checkMiles_4 : decode cX2_checkMiles 4 = .ok (.iload_n 0, 1) := by decide +kernel
theorem dX2_checkMiles_5 : decode cX2_checkMiles 5 = .ok (.sipush 999, 3) := by decide +kernel
theorem dX2_checkMiles_8 : decode cX2_checkMiles 8 = .ok (.if_icmp .le 13, 3) := by decide +kernel
theorem dX2_checkMiles_11 : decode cX2_checkMiles 11 = .ok (.new 119, 3) := by decide +kernel
theorem dX2_checkMiles_14 : decode cX2_checkMiles 14 = .ok (.dup, 1) := by decide +kernel
theorem dX2_checkMiles_15 : decode cX2_checkMiles 15 = .ok (.ldc 188, 2) := by decide +kernel
theorem dX2_checkMiles_17 : decode cX2_checkMiles 17 = .ok (.invokespecial 123, 3) := by decide +kernel
theorem dX2_checkMiles_20 : decode cX2_checkMiles 20 = .ok (.athrow, 1) := by decide +kernel
theorem dX2_checkMiles_21 : decode cX2_checkMiles 21 = .ok (.return_, 1) := by decide +kernel
theorem dX2_checkNotEmpty_0 : decode cX2_checkNotEmpty 0 = .ok (.aload_n 0, 1) := by decide +kernel
theorem dX2_checkNotEmpty_1 : decode cX2_checkNotEmpty 1 = .ok (.invokevirtual 47, 3) := by decide +kernel
theorem dX2_checkNotEmpty_4 : decode cX2_checkNotEmpty 4 = .ok (.ifCond .ne 13, 3) := by decide +kernel
theorem dX2_checkNotEmpty_7 : decode cX2_checkNotEmpty 7 = .ok (.new 51, 3) := by decide +kernel
theorem dX2_checkNotEmpty_10 : decode cX2_checkNotEmpty 10 = .ok (.dup, 1) := by decide +kernel
theorem dX2_checkNotEmpty_11 : decode cX2_checkNotEmpty 11 = .ok (.ldc 190, 2) := by decide +kernel
theorem dX2_checkNotEmpty_13 : decode cX2_checkNotEmpty 13 = .ok (.invokespecial 55, 3) := by decide +kernel
theorem dX2_checkNotEmpty_16 : decode cX2_checkNotEmpty 16 = .ok (.athrow, 1) := by decide +kernel
theorem dX2_checkNotEmpty_17 : decode cX2_checkNotEmpty 17 = .ok (.return_, 1) := by decide +kernel
theorem dX2_hasBit_0 : decode cX2_hasBit 0 = .ok (.iload_n 0, 1) := by decide +kernel
theorem dX2_hasBit_1 : decode cX2_hasBit 1 = .ok (.iload_n 1, 1) := by decide +kernel
theorem dX2_hasBit_2 : decode cX2_hasBit 2 = .ok (.ishr, 1) := by decide +kernel
theorem dX2_hasBit_3 : decode cX2_hasBit 3 = .ok (.iconst 1, 1) := by decide +kernel
theorem dX2_hasBit_4 : decode cX2_hasBit 4 = .ok (.iand, 1) := by decide +kernel
theorem dX2_hasBit_5 : decode cX2_hasBit 5 = .ok (.iconst 1, 1) := by decide +kernel
theorem dX2_hasBit_6 : decode cX2_hasBit 6 = .ok (.if_icmp .ne 7, 3) := by decide +kernel
theorem dX2_hasBit_9 : decode cX2_hasBit 9 = .ok (.iconst 1, 1) := by decide +kernel
theorem dX2_hasBit_10 : decode cX2_hasBit 10 = .ok (.goto 4, 3) := by decide +kernel
theorem dX2_hasBit_13 : decode cX2_hasBit 13 = .ok (.iconst 0, 1) := by decide +kernel
theorem dX2_hasBit_14 : decode cX2_hasBit 14 = .ok (.ireturn, 1) := by decide +kernel
theorem dX2_firstUnlikeBit_0 : decode cX2_firstUnlikeBit 0 = .ok (.iload_n 0, 1) := by decide +kernel
theorem dX2_firstUnlikeBit_1 : decode cX2_firstUnlikeBit 1 = .ok (.iload_n 1, 1) := by decide +kernel
theorem dX2_firstUnlikeBit_2 : decode cX2_firstUnlikeBit 2 = .ok (.ixor, 1) := by decide +kernel
theorem dX2_firstUnlikeBit_3 : decode cX2_firstUnlikeBit 3 = .ok (.istore_n 2, 1) := by decide +kernel
theorem dX2_firstUnlikeBit_4 : decode cX2_firstUnlikeBit 4 = .ok (.iload_n 2, 1) := by decide +kernel
theorem dX2_firstUnlikeBit_5 : decode cX2_firstUnlikeBit 5 = .ok (.ifCond .ne 5, 3) := by decide +kernel
theorem dX2_firstUnlikeBit_8 : decode cX2_firstUnlikeBit 8 = .ok (.iconst (-1), 1) := by decide +kernel
theorem dX2_firstUnlikeBit_9 : decode cX2_firstUnlikeBit 9 = .ok (.ireturn, 1) := by decide +kernel
theorem dX2_firstUnlikeBit_10 : decode cX2_firstUnlikeBit 10 = .ok (.iconst 0, 1) := by decide +kernel
theorem dX2_firstUnlikeBit_11 : decode cX2_firstUnlikeBit 11 = .ok (.istore_n 3, 1) := by decide +kernel
theorem dX2_firstUnlikeBit_12 : decode cX2_firstUnlikeBit 12 = .ok (.bipush 8, 2) := by decide +kernel
theorem dX2_firstUnlikeBit_14 : decode cX2_firstUnlikeBit 14 = .ok (.istore 4, 2) := by decide +kernel
theorem dX2_firstUnlikeBit_16 : decode cX2_firstUnlikeBit 16 = .ok (.iload 4, 2) := by decide +kernel
theorem dX2_firstUnlikeBit_18 : decode cX2_firstUnlikeBit 18 = .ok (.ifCond .le 26, 3) := by decide +kernel
theorem dX2_firstUnlikeBit_21 : decode cX2_firstUnlikeBit 21 = .ok (.iload_n 2, 1) := by decide +kernel
theorem dX2_firstUnlikeBit_22 : decode cX2_firstUnlikeBit 22 = .ok (.iload_n 3, 1) := by decide +kernel
theorem dX2_firstUnlikeBit_23 : decode cX2_firstUnlikeBit 23 = .ok (.iload 4, 2) := by decide +kernel
theorem dX2_firstUnlikeBit_25 : decode cX2_firstUnlikeBit 25 = .ok (.iadd, 1) := by decide +kernel
theorem dX2_firstUnlikeBit_26 : decode cX2_firstUnlikeBit 26 = .ok (.ishr, 1) := by decide +kernel
theorem dX2_firstUnlikeBit_27 : decode cX2_firstUnlikeBit 27 = .ok (.ifCond .eq 8, 3) := by decide +kernel
theorem dX2_firstUnlikeBit_30 : decode cX2_firstUnlikeBit 30 = .ok (.iload_n 3, 1) := by decide +kernel
theorem dX2_firstUnlikeBit_31 : decode cX2_firstUnlikeBit 31 = .ok (.iload 4, 2) := by decide +kernel
theorem dX2_firstUnlikeBit_33 : decode cX2_firstUnlikeBit 33 = .ok (.iadd, 1) := by decide +kernel
theorem dX2_firstUnlikeBit_34 : decode cX2_firstUnlikeBit 34 = .ok (.istore_n 3, 1) := by decide +kernel
theorem dX2_firstUnlikeBit_35 : decode cX2_firstUnlikeBit 35 = .ok (.iload 4, 2) := by decide +kernel
theorem dX2_firstUnlikeBit_37 : decode cX2_firstUnlikeBit 37 = .ok (.iconst 1, 1) := by decide +kernel
theorem dX2_firstUnlikeBit_38 : decode cX2_firstUnlikeBit 38 = .ok (.ishr, 1) := by decide +kernel
theorem dX2_firstUnlikeBit_39 : decode cX2_firstUnlikeBit 39 = .ok (.istore 4, 2) := by decide +kernel
theorem dX2_firstUnlikeBit_41 : decode cX2_firstUnlikeBit 41 = .ok (.goto (-25), 3) := by decide +kernel
theorem dX2_firstUnlikeBit_44 : decode cX2_firstUnlikeBit 44 = .ok (.iload_n 3, 1) := by decide +kernel
theorem dX2_firstUnlikeBit_45 : decode cX2_firstUnlikeBit 45 = .ok (.ireturn, 1) := by decide +kernel
theorem dX2_read_0 : decode cX2_read 0 = .ok (.iload_n 1, 1) := by decide +kernel
theorem dX2_read_1 : decode cX2_read 1 = .ok (.ifCond .lt 15, 3) := by decide +kernel
theorem dX2_read_4 : decode cX2_read 4 = .ok (.iload_n 1, 1) := by decide +kernel
theorem dX2_read_5 : decode cX2_read 5 = .ok (.aload_n 0, 1) := by decide +kernel
theorem dX2_read_6 : decode cX2_read 6 = .ok (.arraylength, 1) := by decide +kernel
theorem dX2_read_7 : decode cX2_read 7 = .ok (.if_icmp .ge 9, 3) := by decide +kernel
theorem dX2_read_10 : decode cX2_read 10 = .ok (.aload_n 0, 1) := by decide +kernel
theorem dX2_read_11 : decode cX2_read 11 = .ok (.iload_n 1, 1) := by decide +kernel
theorem dX2_read_12 : decode cX2_read 12 = .ok (.iaload, 1) := by decide +kernel
theorem dX2_read_13 : decode cX2_read 13 = .ok (.goto 4, 3) := by decide +kernel
theorem dX2_read_16 : decode cX2_read 16 = .ok (.iconst (-1), 1) := by decide +kernel
theorem dX2_read_17 : decode cX2_read 17 = .ok (.ireturn, 1) := by decide +kernel
theorem dX2_write_0 : decode cX2_write 0 = .ok (.iload_n 1, 1) := by decide +kernel
theorem dX2_write_1 : decode cX2_write 1 = .ok (.ifCond .lt 13, 3) := by decide +kernel
theorem dX2_write_4 : decode cX2_write 4 = .ok (.iload_n 1, 1) := by decide +kernel
theorem dX2_write_5 : decode cX2_write 5 = .ok (.aload_n 0, 1) := by decide +kernel
theorem dX2_write_6 : decode cX2_write 6 = .ok (.arraylength, 1) := by decide +kernel
theorem dX2_write_7 : decode cX2_write 7 = .ok (.if_icmp .ge 7, 3) := by decide +kernel
theorem dX2_write_10 : decode cX2_write 10 = .ok (.aload_n 0, 1) := by decide +kernel
theorem dX2_write_11 : decode cX2_write 11 = .ok (.iload_n 1, 1) := by decide +kernel
theorem dX2_write_12 : decode cX2_write 12 = .ok (.iload_n 2, 1) := by decide +kernel
theorem dX2_write_13 : decode cX2_write 13 = .ok (.iastore, 1) := by decide +kernel
theorem dX2_write_14 : decode cX2_write 14 = .ok (.return_, 1) := by decide +kernel
theorem dJ6_numberOfLeadingZeros_0f7a4_0 : decode cJ6_numberOfLeadingZeros_0f7a4 0 = .ok (.iload_n 0, 1) := by decide +kernel
theorem dJ6_numberOfLeadingZeros_0f7a4_1 : decode cJ6_numberOfLeadingZeros_0f7a4 1 = .ok (.ifCond .gt 14, 3) := by decide +kernel
theorem dJ6_numberOfLeadingZeros_0f7a4_4 : decode cJ6_numberOfLeadingZeros_0f7a4 4 = .ok (.iload_n 0, 1) := by decide +kernel
theorem dJ6_numberOfLeadingZeros_0f7a4_5 : decode cJ6_numberOfLeadingZeros_0f7a4 5 = .ok (.ifCond .ne 8, 3) := by decide +kernel
theorem dJ6_numberOfLeadingZeros_0f7a4_8 : decode cJ6_numberOfLeadingZeros_0f7a4 8 = .ok (.bipush 32, 2) := by decide +kernel
theorem dJ6_numberOfLeadingZeros_0f7a4_10 : decode cJ6_numberOfLeadingZeros_0f7a4 10 = .ok (.goto 4, 3) := by decide +kernel
theorem dJ6_numberOfLeadingZeros_0f7a4_13 : decode cJ6_numberOfLeadingZeros_0f7a4 13 = .ok (.iconst 0, 1) := by decide +kernel
theorem dJ6_numberOfLeadingZeros_0f7a4_14 : decode cJ6_numberOfLeadingZeros_0f7a4 14 = .ok (.ireturn, 1) := by decide +kernel
theorem dJ6_numberOfLeadingZeros_0f7a4_15 : decode cJ6_numberOfLeadingZeros_0f7a4 15 = .ok (.bipush 31, 2) := by decide +kernel
theorem dJ6_numberOfLeadingZeros_0f7a4_17 : decode cJ6_numberOfLeadingZeros_0f7a4 17 = .ok (.istore_n 1, 1) := by decide +kernel
theorem dJ6_numberOfLeadingZeros_0f7a4_18 : decode cJ6_numberOfLeadingZeros_0f7a4 18 = .ok (.iload_n 0, 1) := by decide +kernel
theorem dJ6_numberOfLeadingZeros_0f7a4_19 : decode cJ6_numberOfLeadingZeros_0f7a4 19 = .ok (.ldc_w 264, 3) := by decide +kernel
theorem dJ6_numberOfLeadingZeros_0f7a4_22 : decode cJ6_numberOfLeadingZeros_0f7a4 22 = .ok (.if_icmp .lt 11, 3) := by decide +kernel
theorem dJ6_numberOfLeadingZeros_0f7a4_25 : decode cJ6_numberOfLeadingZeros_0f7a4 25 = .ok (.iinc 1 (-16), 3) := by decide +kernel
theorem dJ6_numberOfLeadingZeros_0f7a4_28 : decode cJ6_numberOfLeadingZeros_0f7a4 28 = .ok (.iload_n 0, 1) := by decide +kernel
theorem dJ6_numberOfLeadingZeros_0f7a4_29 : decode cJ6_numberOfLeadingZeros_0f7a4 29 = .ok (.bipush 16, 2) := by decide +kernel
theorem dJ6_numberOfLeadingZeros_0f7a4_31 : decode cJ6_numberOfLeadingZeros_0f7a4 31 = .ok (.iushr, 1) := by decide +kernel
theorem dJ6_numberOfLeadingZeros_0f7a4_32 : decode cJ6_numberOfLeadingZeros_0f7a4 32 = .ok (.istore_n 0, 1) := by decide +kernel
theorem dJ6_numberOfLeadingZeros_0f7a4_33 : decode cJ6_numberOfLeadingZeros_0f7a4 33 = .ok (.iload_n 0, 1) := by decide +kernel
theorem dJ6_numberOfLeadingZeros_0f7a4_34 : decode cJ6_numberOfLeadingZeros_0f7a4 34 = .ok (.sipush 256, 3) := by decide +kernel
theorem dJ6_numberOfLeadingZeros_0f7a4_37 : decode cJ6_numberOfLeadingZeros_0f7a4 37 = .ok (.if_icmp .lt 11, 3) := by decide +kernel
theorem dJ6_numberOfLeadingZeros_0f7a4_40 : decode cJ6_numberOfLeadingZeros_0f7a4 40 = .ok (.iinc 1 (-8), 3) := by decide +kernel
theorem dJ6_numberOfLeadingZeros_0f7a4_43 : decode cJ6_numberOfLeadingZeros_0f7a4 43 = .ok (.iload_n 0, 1) := by decide +kernel
theorem dJ6_numberOfLeadingZeros_0f7a4_44 : decode cJ6_numberOfLeadingZeros_0f7a4 44 = .ok (.bipush 8, 2) := by decide +kernel
theorem dJ6_numberOfLeadingZeros_0f7a4_46 : decode cJ6_numberOfLeadingZeros_0f7a4 46 = .ok (.iushr, 1) := by decide +kernel
theorem dJ6_numberOfLeadingZeros_0f7a4_47 : decode cJ6_numberOfLeadingZeros_0f7a4 47 = .ok (.istore_n 0, 1) := by decide +kernel
theorem dJ6_numberOfLeadingZeros_0f7a4_48 : decode cJ6_numberOfLeadingZeros_0f7a4 48 = .ok (.iload_n 0, 1) := by decide +kernel
theorem dJ6_numberOfLeadingZeros_0f7a4_49 : decode cJ6_numberOfLeadingZeros_0f7a4 49 = .ok (.bipush 16, 2) := by decide +kernel
theorem dJ6_numberOfLeadingZeros_0f7a4_51 : decode cJ6_numberOfLeadingZeros_0f7a4 51 = .ok (.if_icmp .lt 10, 3) := by decide +kernel
theorem dJ6_numberOfLeadingZeros_0f7a4_54 : decode cJ6_numberOfLeadingZeros_0f7a4 54 = .ok (.iinc 1 (-4), 3) := by decide +kernel
theorem dJ6_numberOfLeadingZeros_0f7a4_57 : decode cJ6_numberOfLeadingZeros_0f7a4 57 = .ok (.iload_n 0, 1) := by decide +kernel
theorem dJ6_numberOfLeadingZeros_0f7a4_58 : decode cJ6_numberOfLeadingZeros_0f7a4 58 = .ok (.iconst 4, 1) := by decide +kernel
theorem dJ6_numberOfLeadingZeros_0f7a4_59 : decode cJ6_numberOfLeadingZeros_0f7a4 59 = .ok (.iushr, 1) := by decide +kernel
theorem dJ6_numberOfLeadingZeros_0f7a4_60 : decode cJ6_numberOfLeadingZeros_0f7a4 60 = .ok (.istore_n 0, 1) := by decide +kernel
theorem dJ6_numberOfLeadingZeros_0f7a4_61 : decode cJ6_numberOfLeadingZeros_0f7a4 61 = .ok (.iload_n 0, 1) := by decide +kernel
theorem dJ6_numberOfLeadingZeros_0f7a4_62 : decode cJ6_numberOfLeadingZeros_0f7a4 62 = .ok (.iconst 4, 1) := by decide +kernel
theorem dJ6_numberOfLeadingZeros_0f7a4_63 : decode cJ6_numberOfLeadingZeros_0f7a4 63 = .ok (.if_icmp .lt 10, 3) := by decide +kernel
theorem dJ6_numberOfLeadingZeros_0f7a4_66 : decode cJ6_numberOfLeadingZeros_0f7a4 66 = .ok (.iinc 1 (-2), 3) := by decide +kernel
theorem dJ6_numberOfLeadingZeros_0f7a4_69 : decode cJ6_numberOfLeadingZeros_0f7a4 69 = .ok (.iload_n 0, 1) := by decide +kernel
theorem dJ6_numberOfLeadingZeros_0f7a4_70 : decode cJ6_numberOfLeadingZeros_0f7a4 70 = .ok (.iconst 2, 1) := by decide +kernel
theorem dJ6_numberOfLeadingZeros_0f7a4_71 : decode cJ6_numberOfLeadingZeros_0f7a4 71 = .ok (.iushr, 1) := by decide +kernel
theorem dJ6_numberOfLeadingZeros_0f7a4_72 : decode cJ6_numberOfLeadingZeros_0f7a4 72 = .ok (.istore_n 0, 1) := by decide +kernel
theorem dJ6_numberOfLeadingZeros_0f7a4_73 : decode cJ6_numberOfLeadingZeros_0f7a4 73 = .ok (.iload_n 1, 1) := by decide +kernel
theorem dJ6_numberOfLeadingZeros_0f7a4_74 : decode cJ6_numberOfLeadingZeros_0f7a4 74 = .ok (.iload_n 0, 1) := by decide +kernel
theorem dJ6_numberOfLeadingZeros_0f7a4_75 : decode cJ6_numberOfLeadingZeros_0f7a4 75 = .ok (.iconst 1, 1) := by decide +kernel
theorem dJ6_numberOfLeadingZeros_0f7a4_76 : decode cJ6_numberOfLeadingZeros_0f7a4 76 = .ok (.iushr, 1) := by decide +kernel
theorem dJ6_numberOfLeadingZeros_0f7a4_77 : decode cJ6_numberOfLeadingZeros_0f7a4 77 = .ok (.isub, 1) := by decide +kernel
theorem dJ6_numberOfLeadingZeros_0f7a4_78 : decode cJ6_numberOfLeadingZeros_0f7a4 78 = .ok (.ireturn, 1) := by decide +kernel
theorem dJ9_max_7cf53_0 : decode cJ9_max_7cf53 0 = .ok (.iload_n 0, 1) := by decide +kernel
theorem dJ9_max_7cf53_1 : decode cJ9_max_7cf53 1 = .ok (.iload_n 1, 1) := by decide +kernel
theorem dJ9_max_7cf53_2 : decode cJ9_max_7cf53 2 = .ok (.if_icmp .lt 7, 3) := by decide +kernel
theorem dJ9_max_7cf53_5 : decode cJ9_max_7cf53 5 = .ok (.iload_n 0, 1) := by decide +kernel
theorem dJ9_max_7cf53_6 : decode cJ9_max_7cf53 6 = .ok (.goto 4, 3) := by decide +kernel
theorem dJ9_max_7cf53_9 : decode cJ9_max_7cf53 9 = .ok (.iload_n 1, 1) := by decide +kernel
theorem dJ9_max_7cf53_10 : decode cJ9_max_7cf53 10 = .ok (.ireturn, 1) := by decide +kernel
theorem dJ9_min_7cf53_0 : decode cJ9_min_7cf53 0 = .ok (.iload_n 0, 1) := by decide +kernel
theorem dJ9_min_7cf53_1 : decode cJ9_min_7cf53 1 = .ok (.iload_n 1, 1) := by decide +kernel
theorem dJ9_min_7cf53_2 : decode cJ9_min_7cf53 2 = .ok (.if_icmp .gt 7, 3) := by decide +kernel
theorem dJ9_min_7cf53_5 : decode cJ9_min_7cf53 5 = .ok (.iload_n 0, 1) := by decide +kernel
theorem dJ9_min_7cf53_6 : decode cJ9_min_7cf53 6 = .ok (.goto 4, 3) := by decide +kernel
theorem dJ9_min_7cf53_9 : decode cJ9_min_7cf53 9 = .ok (.iload_n 1, 1) := by decide +kernel
theorem dJ9_min_7cf53_10 : decode cJ9_min_7cf53 10 = .ok (.ireturn, 1) := by decide +kernel
end
section
theorem dX3_init_0 : decode cX3_init 0 = .ok (.aload_n 0, 1) := by decide +kernel
theorem dX3_init_1 : decode cX3_init 1 = .ok (.invokespecial 3, 3) := by decide +kernel
theorem dX3_init_4 : decode cX3_init 4 = .ok (.aload_n 0, 1) := by decide +kernel
theorem dX3_init_5 : decode cX3_init 5 = .ok (.iconst 2, 1) := by decide +kernel
theorem dX3_init_6 : decode cX3_init 6 = .ok (.newarray .int, 2) := by decide +kernel
theorem dX3_init_8 : decode cX3_init 8 = .ok (.putfield 9, 3) := by decide +kernel
theorem dX3_init_11 : decode cX3_init 11 = .ok (.aload_n 0, 1) := by decide +kernel
theorem dX3_init_12 : decode cX3_init 12 = .ok (.bipush 48, 2) := by decide +kernel
theorem dX3_init_14 : decode cX3_init 14 = .ok (.newarray .int, 2) := by decide +kernel
theorem dX3_init_16 : decode cX3_init 16 = .ok (.putfield 13, 3) := by decide +kernel
theorem dX3_init_19 : decode cX3_init 19 = .ok (.aload_n 0, 1) := by decide +kernel
theorem dX3_init_20 : decode cX3_init 20 = .ok (.bipush 48, 2) := by decide +kernel
theorem dX3_init_22 : decode cX3_init 22 = .ok (.newarray .int, 2) := by decide +kernel
theorem dX3_init_24 : decode cX3_init 24 = .ok (.putfield 16, 3) := by decide +kernel
theorem dX3_init_27 : decode cX3_init 27 = .ok (.aload_n 0, 1) := by decide +kernel
theorem dX3_init_28 : decode cX3_init 28 = .ok (.bipush 48, 2) := by decide +kernel
theorem dX3_init_30 : decode cX3_init 30 = .ok (.newarray .int, 2) := by decide +kernel
theorem dX3_init_32 : decode cX3_init 32 = .ok (.putfield 19, 3) := by decide +kernel
theorem dX3_init_35 : decode cX3_init 35 = .ok (.aload_n 0, 1) := by decide +kernel
theorem dX3_init_36 : decode cX3_init 36 = .ok (.bipush 96, 2) := by decide +kernel
theorem dX3_init_38 : decode cX3_init 38 = .ok (.newarray .int, 2) := by decide +kernel
theorem dX3_init_40 : decode cX3_init 40 = .ok (.putfield 22, 3) := by decide +kernel
theorem dX3_init_43 : decode cX3_init 43 = .ok (.aload_n 0, 1) := by decide +kernel
theorem dX3_init_44 : decode cX3_init 44 = .ok (.bipush 96, 2) := by decide +kernel
theorem dX3_init_46 : decode cX3_init 46 = .ok (.newarray .int, 2) := by decide +kernel
theorem dX3_init_48 : decode cX3_init 48 = .ok (.putfield 25, 3) := by decide +kernel
theorem dX3_init_51 : decode cX3_init 51 = .ok (.aload_n 0, 1) := by decide +kernel
theorem dX3_init_52 : decode cX3_init 52 = .ok (.bipush 96, 2) := by decide +kernel
theorem dX3_init_54 : decode cX3_init 54 = .ok (.newarray .int, 2) := by decide +kernel
theorem dX3_init_56 : decode cX3_init 56 = .ok (.putfield 28, 3) := by decide +kernel
theorem dX3_init_59 : decode cX3_init 59 = .ok (.aload_n 0, 1) := by decide +kernel
theorem dX3_init_60 : decode cX3_init 60 = .ok (.bipush 96, 2) := by decide +kernel
theorem dX3_init_62 : decode cX3_init 62 = .ok (.newarray .int, 2) := by decide +kernel
theorem dX3_init_64 : decode cX3_init 64 = .ok (.putfield 31, 3) := by decide +kernel
theorem dX3_init_67 : decode cX3_init 67 = .ok (.aload_n 0, 1) := by decide +kernel
theorem dX3_init_68 : decode cX3_init 68 = .ok (.bipush 96, 2) := by decide +kernel
theorem dX3_init_70 : decode cX3_init 70 = .ok (.newarray .int, 2) := by decide +kernel
theorem dX3_init_72 : decode cX3_init 72 = .ok (.putfield 34, 3) := by decide +kernel
theorem dX3_init_75 : decode cX3_init 75 = .ok (.aload_n 0, 1) := by decide +kernel
theorem dX3_init_76 : decode cX3_init 76 = .ok (.bipush 96, 2) := by decide +kernel
theorem dX3_init_78 : decode cX3_init 78 = .ok (.newarray .int, 2) := by decide +kernel
theorem dX3_init_80 : decode cX3_init 80 = .ok (.putfield 37, 3) := by decide +kernel
theorem dX3_init_83 : decode cX3_init 83 = .ok (.return_, 1) := by decide +kernel
theorem dX3_thrown_0 : decode cX3_thrown 0 = .ok (.aload_n 0, 1) := by decide +kernel
theorem dX3_thrown_1 : decode cX3_thrown 1 = .ok (.getfield 40, 3) := by decide +kernel
theorem dX3_thrown_4 : decode cX3_thrown 4 = .ok (.ireturn, 1) := by decide +kernel
theorem dX3_no_0 : decode cX3_no 0 = .ok (.aload_n 0, 1) := by decide +kernel
theorem dX3_no_1 : decode cX3_no 1 = .ok (.iload_n 1, 1) := by decide +kernel
theorem dX3_no_2 : decode cX3_no 2 = .ok (.putfield 40, 3) := by decide +kernel
theorem dX3_no_5 : decode cX3_no 5 = .ok (.iconst 0, 1) := by decide +kernel
theorem dX3_no_6 : decode cX3_no 6 = .ok (.ireturn, 1) := by decide +kernel
theorem dX3_isIn_0 : decode cX3_isIn 0 = .ok (.iload_n 0, 1) := by decide +kernel
theorem dX3_isIn_1 : decode cX3_isIn 1 = .ok (.iload_n 1, 1) := by decide +kernel
theorem dX3_isIn_2 : decode cX3_isIn 2 = .ok (.if_icmp .lt 12, 3) := by decide +kernel
theorem dX3_isIn_5 : decode cX3_isIn 5 = .ok (.iload_n 0, 1) := by decide +kernel
theorem dX3_isIn_6 : decode cX3_isIn 6 = .ok (.iload_n 2, 1) := by decide +kernel
theorem dX3_isIn_7 : decode cX3_isIn 7 = .ok (.if_icmp .gt 7, 3) := by decide +kernel
theorem dX3_isIn_10 : decode cX3_isIn 10 = .ok (.iconst 1, 1) := by decide +kernel
theorem dX3_isIn_11 : decode cX3_isIn 11 = .ok (.goto 4, 3) := by decide +kernel
theorem dX3_isIn_14 : decode cX3_isIn 14 = .ok (.iconst 0, 1) := by decide +kernel
theorem dX3_isIn_15 : decode cX3_isIn 15 = .ok (.ireturn, 1) := by decide +kernel
theorem dX3_isWood_0 : decode cX3_isWood 0 = .ok (.iload_n 0, 1) := by decide +kernel
theorem dX3_isWood_1 : decode cX3_isWood 1 = .ok (.iconst 0, 1) := by decide +kernel
theorem dX3_isWood_2 : decode cX3_isWood 2 = .ok (.iconst 1, 1) := by decide +kernel
theorem dX3_isWood_3 : decode cX3_isWood 3 = .ok (.invokestatic 44, 3) := by decide +kernel
theorem dX3_isWood_6 : decode cX3_isWood 6 = .ok (.ireturn, 1) := by decide +kernel
theorem dX3_isName_0 : decode cX3_isName 0 = .ok (.iload_n 0, 1) := by decide +kernel
theorem dX3_isName_1 : decode cX3_isName 1 = .ok (.iconst 0, 1) := by decide +kernel
theorem dX3_isName_2 : decode cX3_isName 2 = .ok (.ldc 48, 2) := by decide +kernel
theorem dX3_isName_4 : decode cX3_isName 4 = .ok (.invokestatic 44, 3) := by decide +kernel
theorem dX3_isName_7 : decode cX3_isName 7 = .ok (.ireturn, 1) := by decide +kernel
theorem dX3_topBit_0 : decode cX3_topBit 0 = .ok (.bipush 31, 2) := by decide +kernel
theorem dX3_topBit_2 : decode cX3_topBit 2 = .ok (.iload_n 0, 1) := by decide +kernel
theorem dX3_topBit_3 : decode cX3_topBit 3 = .ok (.invokestatic 49, 3) := by decide +kernel
theorem dX3_topBit_6 : decode cX3_topBit 6 = .ok (.isub, 1) := by decide +kernel
theorem dX3_topBit_7 : decode cX3_topBit 7 = .ok (.ireturn, 1) := by decide +kernel
theorem dX3_smaller_0 : decode cX3_smaller 0 = .ok (.iconst 0, 1) := by decide +kernel
theorem dX3_smaller_1 : decode cX3_smaller 1 = .ok (.istore_n 3, 1) := by decide +kernel
theorem dX3_smaller_2 : decode cX3_smaller 2 = .ok (.iload_n 3, 1) := by decide +kernel
theorem dX3_smaller_3 : decode cX3_smaller 3 = .ok (.aload_n 0, 1) := by decide +kernel
theorem dX3_smaller_4 : decode cX3_smaller 4 = .ok (.getfield 9, 3) := by decide +kernel
theorem dX3_smaller_7 : decode cX3_smaller 7 = .ok (.iload_n 1, 1) := by decide +kernel
theorem dX3_smaller_8 : decode cX3_smaller 8 = .ok (.iaload, 1) := by decide +kernel
theorem dX3_smaller_9 : decode cX3_smaller 9 = .ok (.if_icmp .ge 24, 3) := by decide +kernel
theorem dX3_smaller_12 : decode cX3_smaller 12 = .ok (.aload_n 0, 1) := by decide +kernel
theorem dX3_smaller_13 : decode cX3_smaller 13 = .ok (.getfield 13, 3) := by decide +kernel
theorem dX3_smaller_16 : decode cX3_smaller 16 = .ok (.bipush 24, 2) := by decide +kernel
theorem dX3_smaller_18 : decode cX3_smaller 18 = .ok (.iload_n 1, 1) := by decide +kernel
theorem dX3_smaller_19 : decode cX3_smaller 19 = .ok (.imul, 1) := by decide +kernel
theorem dX3_smaller_20 : decode cX3_smaller 20 = .ok (.iload_n 3, 1) := by decide +kernel
theorem dX3_smaller_21 : decode cX3_smaller 21 = .ok (.iadd, 1) := by decide +kernel
theorem dX3_smaller_22 : decode cX3_smaller 22 = .ok (.iaload, 1) := by decide +kernel
theorem dX3_smaller_23 : decode cX3_smaller 23 = .ok (.iload_n 2, 1) := by decide +kernel
theorem dX3_smaller_24 : decode cX3_smaller 24 = .ok (.if_icmp .ge 9, 3) := by decide +kernel
theorem dX3_smaller_27 : decode cX3_smaller 27 = .ok (.iinc 3 1, 3) := by decide +kernel
theorem dX3_smaller_30 : decode cX3_smaller 30 = .ok (.goto (-28), 3) := by decide +kernel
theorem dX3_smaller_33 : decode cX3_smaller 33 = .ok (.iload_n 3, 1) := by decide +kernel
theorem dX3_smaller_34 : decode cX3_smaller 34 = .ok (.ireturn, 1) := by decide +kernel
theorem dX3_isThere_0 : decode cX3_isThere 0 = .ok (.aload_n 0, 1) := by decide +kernel
theorem dX3_isThere_1 : decode cX3_isThere 1 = .ok (.iload_n 1, 1) := by decide +kernel
theorem dX3_isThere_2 : decode cX3_isThere 2 = .ok (.iload_n 2, 1) := by decide +kernel
theorem dX3_isThere_3 : decode cX3_isThere 3 = .ok (.invokevirtual 55, 3) := by decide +kernel
theorem dX3_isThere_6 : decode cX3_isThere 6 = .ok (.istore_n 3, 1) := by decide +kernel
theorem dX3_isThere_7 : decode cX3_isThere 7 = .ok (.iload_n 3, 1) := by decide +kernel
theorem dX3_isThere_8 : decode cX3_isThere 8 = .ok (.aload_n 0, 1) := by decide +kernel
theorem dX3_isThere_9 : decode cX3_isThere 9 = .ok (.getfield 9, 3) := by decide +kernel
theorem dX3_isThere_12 : decode cX3_isThere 12 = .ok (.iload_n 1, 1) := by decide +kernel
theorem dX3_isThere_13 : decode cX3_isThere 13 = .ok (.iaload, 1) := by decide +kernel
theorem dX3_isThere_14 : decode cX3_isThere 14 = .ok (.if_icmp .ge 22, 3) := by decide +kernel
theorem dX3_isThere_17 : decode cX3_isThere 17 = .ok (.aload_n 0, 1) := by decide +kernel
theorem dX3_isThere_18 : decode cX3_isThere 18 = .ok (.getfield 13, 3) := by decide +kernel
theorem dX3_isThere_21 : decode cX3_isThere 21 = .ok (.bipush 24, 2) := by decide +kernel
theorem dX3_isThere_23 : decode cX3_isThere 23 = .ok (.iload_n 1, 1) := by decide +kernel
theorem dX3_isThere_24 : decode cX3_isThere 24 = .ok (.imul, 1) := by decide +kernel
theorem dX3_isThere_25 : decode cX3_isThere 25 = .ok (.iload_n 3, 1) := by decide +kernel
theorem dX3_isThere_26 : decode cX3_isThere 26 = .ok (.iadd, 1) := by decide +kernel
theorem dX3_isThere_27 : decode cX3_isThere 27 = .ok (.iaload, 1) := by decide +kernel
theorem dX3_isThere_28 : decode cX3_isThere 28 = .ok (.iload_n 2, 1) := by decide +kernel
theorem dX3_isThere_29 : decode cX3_isThere 29 = .ok (.if_icmp .ne 7, 3) := by decide +kernel
theorem dX3_isThere_32 : decode cX3_isThere 32 = .ok (.iconst 1, 1) := by decide +kernel
theorem dX3_isThere_33 : decode cX3_isThere 33 = .ok (.goto 4, 3) := by decide +kernel
theorem dX3_isThere_36 : decode cX3_isThere 36 = .ok (.iconst 0, 1) := by decide +kernel
theorem dX3_isThere_37 : decode cX3_isThere 37 = .ok (.ireturn, 1) := by decide +kernel
theorem dX3_insert_0 : decode cX3_insert 0 = .ok (.bipush 24, 2) := by decide +kernel
theorem dX3_insert_2 : decode cX3_insert 2 = .ok (.iload_n 1, 1) := by decide +kernel
theorem dX3_insert_3 : decode cX3_insert 3 = .ok (.imul, 1) := by decide +kernel
theorem dX3_insert_4 : decode cX3_insert 4 = .ok (.aload_n 0, 1) := by decide +kernel
theorem dX3_insert_5 : decode cX3_insert 5 = .ok (.iload_n 1, 1) := by decide +kernel
theorem dX3_insert_6 : decode cX3_insert 6 = .ok (.iload_n 2, 1) := by decide +kernel
theorem dX3_insert_7 : decode cX3_insert 7 = .ok (.invokevirtual 55, 3) := by decide +kernel
theorem dX3_insert_10 : decode cX3_insert 10 = .ok (.iadd, 1) := by decide +kernel
theorem dX3_insert_11 : decode cX3_insert 11 = .ok (.istore 4, 2) := by decide +kernel
theorem dX3_insert_13 : decode cX3_insert 13 = .ok (.bipush 24, 2) := by decide +kernel
theorem dX3_insert_15 : decode cX3_insert 15 = .ok (.iload_n 1, 1) := by decide +kernel
theorem dX3_insert_16 : decode cX3_insert 16 = .ok (.imul, 1) := by decide +kernel
theorem dX3_insert_17 : decode cX3_insert 17 = .ok (.aload_n 0, 1) := by decide +kernel
theorem dX3_insert_18 : decode cX3_insert 18 = .ok (.getfield 9, 3) := by decide +kernel
theorem dX3_insert_21 : decode cX3_insert 21 = .ok (.iload_n 1, 1) := by decide +kernel
theorem dX3_insert_22 : decode cX3_insert 22 = .ok (.iaload, 1) := by decide +kernel
theorem dX3_insert_23 : decode cX3_insert 23 = .ok (.iadd, 1) := by decide +kernel
theorem dX3_insert_24 : decode cX3_insert 24 = .ok (.iload 4, 2) := by decide +kernel
theorem dX3_insert_26 : decode cX3_insert 26 = .ok (.isub, 1) := by decide +kernel
theorem dX3_insert_27 : decode cX3_insert 27 = .ok (.istore 5, 2) := by decide +kernel
theorem dX3_insert_29 : decode cX3_insert 29 = .ok (.aload_n 0, 1) := by decide +kernel
theorem dX3_insert_30 : decode cX3_insert 30 = .ok (.getfield 13, 3) := by decide +kernel
theorem dX3_insert_33 : decode cX3_insert 33 = .ok (.iload 4, 2) := by decide +kernel
theorem dX3_insert_35 : decode cX3_insert 35 = .ok (.aload_n 0, 1) := by decide +kernel
theorem dX3_insert_36 : decode cX3_insert 36 = .ok (.getfield 13, 3) := by decide +kernel
theorem dX3_insert_39 : decode cX3_insert 39 = .ok (.iload 4, 2) := by decide +kernel
theorem dX3_insert_41 : decode cX3_insert 41 = .ok (.iconst 1, 1) := by decide +kernel
theorem dX3_insert_42 : decode cX3_insert 42 = .ok (.iadd, 1) := by decide +kernel
theorem dX3_insert_43 : decode cX3_insert 43 = .ok (.iload 5, 2) := by decide +kernel
theorem dX3_insert_45 : decode cX3_insert 45 = .ok (.invokestatic 59, 3) := by decide +kernel
theorem dX3_insert_48 : decode cX3_insert 48 = .ok (.aload_n 0, 1) := by decide +kernel
theorem dX3_insert_49 : decode cX3_insert 49 = .ok (.getfield 16, 3) := by decide +kernel
theorem dX3_insert_52 : decode cX3_insert 52 = .ok (.iload 4, 2) := by decide +kernel
theorem dX3_insert_54 : decode cX3_insert 54 = .ok (.aload_n 0, 1) := by decide +kernel
theorem dX3_insert_55 : decode cX3_insert 55 = .ok (.getfield 16, 3) := by decide +kernel
theorem dX3_insert_58 : decode cX3_insert 58 = .ok (.iload 4, 2) := by decide +kernel
theorem dX3_insert_60 : decode cX3_insert 60 = .ok (.iconst 1, 1) := by decide +kernel
theorem dX3_insert_61 : decode cX3_insert 61 = .ok (.iadd, 1) := by decide +kernel
theorem dX3_insert_62 : decode cX3_insert 62 = .ok (.iload 5, 2) := by decide +kernel
theorem dX3_insert_64 : decode cX3_insert 64 = .ok (.invokestatic 59, 3) := by decide +kernel
theorem dX3_insert_67 : decode cX3_insert 67 = .ok (.aload_n 0, 1) := by decide +kernel
theorem dX3_insert_68 : decode cX3_insert 68 = .ok (.getfield 13, 3) := by decide +kernel
theorem dX3_insert_71 : decode cX3_insert 71 = .ok (.iload 4, 2) := by decide +kernel
theorem dX3_insert_73 : decode cX3_insert 73 = .ok (.iload_n 2, 1) := by decide +kernel
theorem dX3_insert_74 : decode cX3_insert 74 = .ok (.iastore, 1) := by decide +kernel
theorem dX3_insert_75 : decode cX3_insert 75 = .ok (.aload_n 0, 1) := by decide +kernel
theorem dX3_insert_76 : decode cX3_insert 76 = .ok (.getfield 16, 3) := by decide +kernel
theorem dX3_insert_79 : decode cX3_insert 79 = .ok (.iload 4, 2) := by decide +kernel
theorem dX3_insert_81 : decode cX3_insert 81 = .ok (.iload_n 3, 1) := by decide +kernel
theorem dX3_insert_82 : decode cX3_insert 82 = .ok (.iastore, 1) := by decide +kernel
theorem dX3_insert_83 : decode cX3_insert 83 = .ok (.aload_n 0, 1) := by decide +kernel
theorem dX3_insert_84 : decode cX3_insert 84 = .ok (.getfield 9, 3) := by decide +kernel
theorem dX3_insert_87 : decode cX3_insert 87 = .ok (.iload_n 1, 1) := by decide +kernel
theorem dX3_insert_88 : decode cX3_insert 88 = .ok (.dup2, 1) := by decide +kernel
theorem dX3_insert_89 : decode cX3_insert 89 = .ok (.iaload, 1) := by decide +kernel
theorem dX3_insert_90 : decode cX3_insert 90 = .ok (.iconst 1, 1) := by decide +kernel
theorem dX3_insert_91 : decode cX3_insert 91 = .ok (.iadd, 1) := by decide +kernel
theorem dX3_insert_92 : decode cX3_insert 92 = .ok (.iastore, 1) := by decide +kernel
theorem dX3_insert_93 : decode cX3_insert 93 = .ok (.return_, 1) := by decide +kernel
theorem dX3_remove_0 : decode cX3_remove 0 = .ok (.bipush 24, 2) := by decide +kernel
theorem dX3_remove_2 : decode cX3_remove 2 = .ok (.iload_n 1, 1) := by decide +kernel
theorem dX3_remove_3 : decode cX3_remove 3 = .ok (.imul, 1) := by decide +kernel
theorem dX3_remove_4 : decode cX3_remove 4 = .ok (.aload_n 0, 1) := by decide +kernel
theorem dX3_remove_5 : decode cX3_remove 5 = .ok (.iload_n 1, 1) := by decide +kernel
theorem dX3_remove_6 : decode cX3_remove 6 = .ok (.iload_n 2, 1) := by decide +kernel
theorem dX3_remove_7 : decode cX3_remove 7 = .ok (.invokevirtual 55, 3) := by decide +kernel
theorem dX3_remove_10 : decode cX3_remove 10 = .ok (.iadd, 1) := by decide +kernel
theorem dX3_remove_11 : decode cX3_remove 11 = .ok (.istore_n 3, 1) := by decide +kernel
theorem dX3_remove_12 : decode cX3_remove 12 = .ok (.aload_n 0, 1) := by decide +kernel
theorem dX3_remove_13 : decode cX3_remove 13 = .ok (.getfield 16, 3) := by decide +kernel
theorem dX3_remove_16 : decode cX3_remove 16 = .ok (.iload_n 3, 1) := by decide +kernel
theorem dX3_remove_17 : decode cX3_remove 17 = .ok (.iaload, 1) := by decide +kernel
theorem dX3_remove_18 : decode cX3_remove 18 = .ok (.istore 4, 2) := by decide +kernel
theorem dX3_remove_20 : decode cX3_remove 20 = .ok (.bipush 24, 2) := by decide +kernel
theorem dX3_remove_22 : decode cX3_remove 22 = .ok (.iload_n 1, 1) := by decide +kernel
theorem dX3_remove_23 : decode cX3_remove 23 = .ok (.imul, 1) := by decide +kernel
theorem dX3_remove_24 : decode cX3_remove 24 = .ok (.aload_n 0, 1) := by decide +kernel
theorem dX3_remove_25 : decode cX3_remove 25 = .ok (.getfield 9, 3) := by decide +kernel
theorem dX3_remove_28 : decode cX3_remove 28 = .ok (.iload_n 1, 1) := by decide +kernel
theorem dX3_remove_29 : decode cX3_remove 29 = .ok (.iaload, 1) := by decide +kernel
theorem dX3_remove_30 : decode cX3_remove 30 = .ok (.iadd, 1) := by decide +kernel
theorem dX3_remove_31 : decode cX3_remove 31 = .ok (.iload_n 3, 1) := by decide +kernel
theorem dX3_remove_32 : decode cX3_remove 32 = .ok (.isub, 1) := by decide +kernel
theorem dX3_remove_33 : decode cX3_remove 33 = .ok (.iconst 1, 1) := by decide +kernel
theorem dX3_remove_34 : decode cX3_remove 34 = .ok (.isub, 1) := by decide +kernel
theorem dX3_remove_35 : decode cX3_remove 35 = .ok (.istore 5, 2) := by decide +kernel
theorem dX3_remove_37 : decode cX3_remove 37 = .ok (.aload_n 0, 1) := by decide +kernel
theorem dX3_remove_38 : decode cX3_remove 38 = .ok (.getfield 13, 3) := by decide +kernel
theorem dX3_remove_41 : decode cX3_remove 41 = .ok (.iload_n 3, 1) := by decide +kernel
theorem dX3_remove_42 : decode cX3_remove 42 = .ok (.iconst 1, 1) := by decide +kernel
theorem dX3_remove_43 : decode cX3_remove 43 = .ok (.iadd, 1) := by decide +kernel
theorem dX3_remove_44 : decode cX3_remove 44 = .ok (.aload_n 0, 1) := by decide +kernel
theorem dX3_remove_45 : decode cX3_remove 45 = .ok (.getfield 13, 3) := by decide +kernel
theorem dX3_remove_48 : decode cX3_remove 48 = .ok (.iload_n 3, 1) := by decide +kernel
theorem dX3_remove_49 : decode cX3_remove 49 = .ok (.iload 5, 2) := by decide +kernel
theorem dX3_remove_51 : decode cX3_remove 51 = .ok (.invokestatic 59, 3) := by decide +kernel
theorem dX3_remove_54 : decode cX3_remove 54 = .ok (.aload_n 0, 1) := by decide +kernel
theorem dX3_remove_55 : decode cX3_remove 55 = .ok (.getfield 16, 3) := by decide +kernel
theorem dX3_remove_58 : decode cX3_remove 58 = .ok (.iload_n 3, 1) := by decide +kernel
theorem dX3_remove_59 : decode cX3_remove 59 = .ok (.iconst 1, 1) := by decide +kernel
theorem dX3_remove_60 : decode cX3_remove 60 = .ok (.iadd, 1) := by decide +kernel
theorem dX3_remove_61 : decode cX3_remove 61 = .ok (.aload_n 0, 1) := by decide +kernel
theorem dX3_remove_62 : decode cX3_remove 62 = .ok (.getfield 16, 3) := by decide +kernel
theorem dX3_remove_65 : decode cX3_remove 65 = .ok (.iload_n 3, 1) := by decide +kernel
theorem dX3_remove_66 : decode cX3_remove 66 = .ok (.iload 5, 2) := by decide +kernel
theorem dX3_remove_68 : decode cX3_remove 68 = .ok (.invokestatic 59, 3) := by decide +kernel
theorem dX3_remove_71 : decode cX3_remove 71 = .ok (.aload_n 0, 1) := by decide +kernel
theorem dX3_remove_72 : decode cX3_remove 72 = .ok (.getfield 9, 3) := by decide +kernel
theorem dX3_remove_75 : decode cX3_remove 75 = .ok (.iload_n 1, 1) := by decide +kernel
theorem dX3_remove_76 : decode cX3_remove 76 = .ok (.dup2, 1) := by decide +kernel
theorem dX3_remove_77 : decode cX3_remove 77 = .ok (.iaload, 1) := by decide +kernel
theorem dX3_remove_78 : decode cX3_remove 78 = .ok (.iconst 1, 1) := by decide +kernel
theorem dX3_remove_79 : decode cX3_remove 79 = .ok (.isub, 1) := by decide +kernel
theorem dX3_remove_80 : decode cX3_remove 80 = .ok (.iastore, 1) := by decide +kernel
theorem dX3_remove_81 : decode cX3_remove 81 = .ok (.iload 4, 2) := by decide +kernel
theorem dX3_remove_83 : decode cX3_remove 83 = .ok (.ireturn, 1) := by decide +kernel
theorem dX3_common_0 : decode cX3_common 0 = .ok (.iconst 0, 1) := by decide +kernel
theorem dX3_common_1 : decode cX3_common 1 = .ok (.istore_n 1, 1) := by decide +kernel
theorem dX3_common_2 : decode cX3_common 2 = .ok (.iconst 0, 1) := by decide +kernel
theorem dX3_common_3 : decode cX3_common 3 = .ok (.istore_n 2, 1) := by decide +kernel
theorem dX3_common_4 : decode cX3_common 4 = .ok (.iload_n 2, 1) := by decide +kernel
theorem dX3_common_5 : decode cX3_common 5 = .ok (.aload_n 0, 1) := by decide +kernel
theorem dX3_common_6 : decode cX3_common 6 = .ok (.getfield 9, 3) := by decide +kernel
theorem dX3_common_9 : decode cX3_common 9 = .ok (.iconst 0, 1) := by decide +kernel
theorem dX3_common_10 : decode cX3_common 10 = .ok (.iaload, 1) := by decide +kernel
theorem dX3_common_11 : decode cX3_common 11 = .ok (.if_icmp .ge 31, 3) := by decide +kernel
theorem dX3_common_14 : decode cX3_common 14 = .ok (.iload_n 1, 1) := by decide +kernel
theorem dX3_common_15 : decode cX3_common 15 = .ok (.aload_n 0, 1) := by decide +kernel
theorem dX3_common_16 : decode cX3_common 16 = .ok (.iconst 1, 1) := by decide +kernel
theorem dX3_common_17 : decode cX3_common 17 = .ok (.aload_n 0, 1) := by decide +kernel
theorem dX3_common_18 : decode cX3_common 18 = .ok (.getfield 13, 3) := by decide +kernel
theorem dX3_common_21 : decode cX3_common 21 = .ok (.iload_n 2, 1) := by decide +kernel
theorem dX3_common_22 : decode cX3_common 22 = .ok (.iaload, 1) := by decide +kernel
theorem dX3_common_23 : decode cX3_common 23 = .ok (.invokevirtual 65, 3) := by decide +kernel
theorem dX3_common_26 : decode cX3_common 26 = .ok (.ifCond .eq 7, 3) := by decide +kernel
theorem dX3_common_29 : decode cX3_common 29 = .ok (.iconst 1, 1) := by decide +kernel
theorem dX3_common_30 : decode cX3_common 30 = .ok (.goto 4, 3) := by decide +kernel
theorem dX3_common_33 : decode cX3_common 33 = .ok (.iconst 0, 1) := by decide +kernel
theorem dX3_common_34 : decode cX3_common 34 = .ok (.iadd, 1) := by decide +kernel
theorem dX3_common_35 : decode cX3_common 35 = .ok (.istore_n 1, 1) := by decide +kernel
theorem dX3_common_36 : decode cX3_common 36 = .ok (.iinc 2 1, 3) := by decide +kernel
theorem dX3_common_39 : decode cX3_common 39 = .ok (.goto (-35), 3) := by decide +kernel
theorem dX3_common_42 : decode cX3_common 42 = .ok (.iload_n 1, 1) := by decide +kernel
theorem dX3_common_43 : decode cX3_common 43 = .ok (.ireturn, 1) := by decide +kernel
theorem dX3_part_0 : decode cX3_part 0 = .ok (.aload_n 0, 1) := by decide +kernel
theorem dX3_part_1 : decode cX3_part 1 = .ok (.getfield 69, 3) := by decide +kernel
theorem dX3_part_4 : decode cX3_part 4 = .ok (.istore 4, 2) := by decide +kernel
theorem dX3_part_6 : decode cX3_part 6 = .ok (.aload_n 0, 1) := by decide +kernel
theorem dX3_part_7 : decode cX3_part 7 = .ok (.dup, 1) := by decide +kernel
theorem dX3_part_8 : decode cX3_part 8 = .ok (.getfield 69, 3) := by decide +kernel
theorem dX3_part_11 : decode cX3_part 11 = .ok (.iconst 1, 1) := by decide +kernel
theorem dX3_part_12 : decode cX3_part 12 = .ok (.iadd, 1) := by decide +kernel
theorem dX3_part_13 : decode cX3_part 13 = .ok (.putfield 69, 3) := by decide +kernel
theorem dX3_part_16 : decode cX3_part 16 = .ok (.aload_n 0, 1) := by decide +kernel
theorem dX3_part_17 : decode cX3_part 17 = .ok (.getfield 25, 3) := by decide +kernel
theorem dX3_part_20 : decode cX3_part 20 = .ok (.iload 4, 2) := by decide +kernel
theorem dX3_part_22 : decode cX3_part 22 = .ok (.iload_n 1, 1) := by decide +kernel
theorem dX3_part_23 : decode cX3_part 23 = .ok (.iastore, 1) := by decide +kernel
theorem dX3_part_24 : decode cX3_part 24 = .ok (.aload_n 0, 1) := by decide +kernel
theorem dX3_part_25 : decode cX3_part 25 = .ok (.getfield 28, 3) := by decide +kernel
theorem dX3_part_28 : decode cX3_part 28 = .ok (.iload 4, 2) := by decide +kernel
theorem dX3_part_30 : decode cX3_part 30 = .ok (.iload_n 2, 1) := by decide +kernel
theorem dX3_part_31 : decode cX3_part 31 = .ok (.iastore, 1) := by decide +kernel
theorem dX3_part_32 : decode cX3_part 32 = .ok (.aload_n 0, 1) := by decide +kernel
theorem dX3_part_33 : decode cX3_part 33 = .ok (.getfield 37, 3) := by decide +kernel
theorem dX3_part_36 : decode cX3_part 36 = .ok (.iload 4, 2) := by decide +kernel
theorem dX3_part_38 : decode cX3_part 38 = .ok (.iload_n 3, 1) := by decide +kernel
theorem dX3_part_39 : decode cX3_part 39 = .ok (.iastore, 1) := by decide +kernel
theorem dX3_part_40 : decode cX3_part 40 = .ok (.aload_n 0, 1) := by decide +kernel
theorem dX3_part_41 : decode cX3_part 41 = .ok (.getfield 22, 3) := by decide +kernel
theorem dX3_part_44 : decode cX3_part 44 = .ok (.iload 4, 2) := by decide +kernel
theorem dX3_part_46 : decode cX3_part 46 = .ok (.iconst (-1), 1) := by decide +kernel
theorem dX3_part_47 : decode cX3_part 47 = .ok (.iastore, 1) := by decide +kernel
theorem dX3_part_48 : decode cX3_part 48 = .ok (.aload_n 0, 1) := by decide +kernel
theorem dX3_part_49 : decode cX3_part 49 = .ok (.getfield 31, 3) := by decide +kernel
theorem dX3_part_52 : decode cX3_part 52 = .ok (.iload 4, 2) := by decide +kernel
theorem dX3_part_54 : decode cX3_part 54 = .ok (.iconst (-1), 1) := by decide +kernel
theorem dX3_part_55 : decode cX3_part 55 = .ok (.iastore, 1) := by decide +kernel
theorem dX3_part_56 : decode cX3_part 56 = .ok (.aload_n 0, 1) := by decide +kernel
theorem dX3_part_57 : decode cX3_part 57 = .ok (.getfield 34, 3) := by decide +kernel
theorem dX3_part_60 : decode cX3_part 60 = .ok (.iload 4, 2) := by decide +kernel
theorem dX3_part_62 : decode cX3_part 62 = .ok (.iconst (-1), 1) := by decide +kernel
theorem dX3_part_63 : decode cX3_part 63 = .ok (.iastore, 1) := by decide +kernel
theorem dX3_part_64 : decode cX3_part 64 = .ok (.iload_n 2, 1) := by decide +kernel
theorem dX3_part_65 : decode cX3_part 65 = .ok (.iload_n 1, 1) := by decide +kernel
theorem dX3_part_66 : decode cX3_part 66 = .ok (.isub, 1) := by decide +kernel
theorem dX3_part_67 : decode cX3_part 67 = .ok (.iconst 2, 1) := by decide +kernel
theorem dX3_part_68 : decode cX3_part 68 = .ok (.if_icmp .ge 6, 3) := by decide +kernel
theorem dX3_part_71 : decode cX3_part 71 = .ok (.iload 4, 2) := by decide +kernel
theorem dX3_part_73 : decode cX3_part 73 = .ok (.ireturn, 1) := by decide +kernel
theorem dX3_part_74 : decode cX3_part 74 = .ok (.aload_n 0, 1) := by decide +kernel
theorem dX3_part_75 : decode cX3_part 75 = .ok (.getfield 22, 3) := by decide +kernel
theorem dX3_part_78 : decode cX3_part 78 = .ok (.iload 4, 2) := by decide +kernel
theorem dX3_part_80 : decode cX3_part 80 = .ok (.aload_n 0, 1) := by decide +kernel
theorem dX3_part_81 : decode cX3_part 81 = .ok (.getfield 19, 3) := by decide +kernel
theorem dX3_part_84 : decode cX3_part 84 = .ok (.iload_n 1, 1) := by decide +kernel
theorem dX3_part_85 : decode cX3_part 85 = .ok (.iaload, 1) := by decide +kernel
theorem dX3_part_86 : decode cX3_part 86 = .ok (.aload_n 0, 1) := by decide +kernel
theorem dX3_part_87 : decode cX3_part 87 = .ok (.getfield 19, 3) := by decide +kernel
theorem dX3_part_90 : decode cX3_part 90 = .ok (.iload_n 2, 1) := by decide +kernel
theorem dX3_part_91 : decode cX3_part 91 = .ok (.iconst 1, 1) := by decide +kernel
theorem dX3_part_92 : decode cX3_part 92 = .ok (.isub, 1) := by decide +kernel
theorem dX3_part_93 : decode cX3_part 93 = .ok (.iaload, 1) := by decide +kernel
theorem dX3_part_94 : decode cX3_part 94 = .ok (.ixor, 1) := by decide +kernel
theorem dX3_part_95 : decode cX3_part 95 = .ok (.invokestatic 72, 3) := by decide +kernel
theorem dX3_part_98 : decode cX3_part 98 = .ok (.iastore, 1) := by decide +kernel
theorem dX3_part_99 : decode cX3_part 99 = .ok (.iload_n 1, 1) := by decide +kernel
theorem dX3_part_100 : decode cX3_part 100 = .ok (.istore 5, 2) := by decide +kernel
theorem dX3_part_102 : decode cX3_part 102 = .ok (.aload_n 0, 1) := by decide +kernel
theorem dX3_part_103 : decode cX3_part 103 = .ok (.getfield 19, 3) := by decide +kernel
theorem dX3_part_106 : decode cX3_part 106 = .ok (.iload 5, 2) := by decide +kernel
theorem dX3_part_108 : decode cX3_part 108 = .ok (.iaload, 1) := by decide +kernel
theorem dX3_part_109 : decode cX3_part 109 = .ok (.aload_n 0, 1) := by decide +kernel
theorem dX3_part_110 : decode cX3_part 110 = .ok (.getfield 22, 3) := by decide +kernel
theorem dX3_part_113 : decode cX3_part 113 = .ok (.iload 4, 2) := by decide +kernel
theorem dX3_part_115 : decode cX3_part 115 = .ok (.iaload, 1) := by decide +kernel
theorem dX3_part_116 : decode cX3_part 116 = .ok (.ishr, 1) := by decide +kernel
theorem dX3_part_117 : decode cX3_part 117 = .ok (.iconst 1, 1) := by decide +kernel
theorem dX3_part_118 : decode cX3_part 118 = .ok (.iand, 1) := by decide +kernel
theorem dX3_part_119 : decode cX3_part 119 = .ok (.ifCond .ne 9, 3) := by decide +kernel
theorem dX3_part_122 : decode cX3_part 122 = .ok (.iinc 5 1, 3) := by decide +kernel
theorem dX3_part_125 : decode cX3_part 125 = .ok (.goto (-23), 3) := by decide +kernel
theorem dX3_part_128 : decode cX3_part 128 = .ok (.aload_n 0, 1) := by decide +kernel
theorem dX3_part_129 : decode cX3_part 129 = .ok (.getfield 31, 3) := by decide +kernel
theorem dX3_part_132 : decode cX3_part 132 = .ok (.iload 4, 2) := by decide +kernel
theorem dX3_part_134 : decode cX3_part 134 = .ok (.aload_n 0, 1) := by decide +kernel
theorem dX3_part_135 : decode cX3_part 135 = .ok (.iload_n 1, 1) := by decide +kernel
theorem dX3_part_136 : decode cX3_part 136 = .ok (.iload 5, 2) := by decide +kernel
theorem dX3_part_138 : decode cX3_part 138 = .ok (.iload_n 3, 1) := by decide +kernel
theorem dX3_part_139 : decode cX3_part 139 = .ok (.iconst 1, 1) := by decide +kernel
theorem dX3_part_140 : decode cX3_part 140 = .ok (.iadd, 1) := by decide +kernel
theorem dX3_part_141 : decode cX3_part 141 = .ok (.invokevirtual 75, 3) := by decide +kernel
theorem dX3_part_144 : decode cX3_part 144 = .ok (.iastore, 1) := by decide +kernel
theorem dX3_part_145 : decode cX3_part 145 = .ok (.aload_n 0, 1) := by decide +kernel
theorem dX3_part_146 : decode cX3_part 146 = .ok (.getfield 34, 3) := by decide +kernel
theorem dX3_part_149 : decode cX3_part 149 = .ok (.iload 4, 2) := by decide +kernel
theorem dX3_part_151 : decode cX3_part 151 = .ok (.aload_n 0, 1) := by decide +kernel
theorem dX3_part_152 : decode cX3_part 152 = .ok (.iload 5, 2) := by decide +kernel
theorem dX3_part_154 : decode cX3_part 154 = .ok (.iload_n 2, 1) := by decide +kernel
theorem dX3_part_155 : decode cX3_part 155 = .ok (.iload_n 3, 1) := by decide +kernel
theorem dX3_part_156 : decode cX3_part 156 = .ok (.iconst 1, 1) := by decide +kernel
theorem dX3_part_157 : decode cX3_part 157 = .ok (.iadd, 1) := by decide +kernel
theorem dX3_part_158 : decode cX3_part 158 = .ok (.invokevirtual 75, 3) := by decide +kernel
theorem dX3_part_161 : decode cX3_part 161 = .ok (.iastore, 1) := by decide +kernel
theorem dX3_part_162 : decode cX3_part 162 = .ok (.iload 4, 2) := by decide +kernel
theorem dX3_part_164 : decode cX3_part 164 = .ok (.ireturn, 1) := by decide +kernel
theorem dX3_makeSigns_0 : decode cX3_makeSigns 0 = .ok (.aload_n 0, 1) := by decide +kernel
theorem dX3_makeSigns_1 : decode cX3_makeSigns 1 = .ok (.iconst 0, 1) := by decide +kernel
theorem dX3_makeSigns_2 : decode cX3_makeSigns 2 = .ok (.putfield 69, 3) := by decide +kernel
theorem dX3_makeSigns_5 : decode cX3_makeSigns 5 = .ok (.aload_n 0, 1) := by decide +kernel
theorem dX3_makeSigns_6 : decode cX3_makeSigns 6 = .ok (.getfield 79, 3) := by decide +kernel
theorem dX3_makeSigns_9 : decode cX3_makeSigns 9 = .ok (.ifCond .le 14, 3) := by decide +kernel
theorem dX3_makeSigns_12 : decode cX3_makeSigns 12 = .ok (.aload_n 0, 1) := by decide +kernel
theorem dX3_makeSigns_13 : decode cX3_makeSigns 13 = .ok (.iconst 0, 1) := by decide +kernel
theorem dX3_makeSigns_14 : decode cX3_makeSigns 14 = .ok (.aload_n 0, 1) := by decide +kernel
theorem dX3_makeSigns_15 : decode cX3_makeSigns 15 = .ok (.getfield 79, 3) := by decide +kernel
theorem dX3_makeSigns_18 : decode cX3_makeSigns 18 = .ok (.iconst 0, 1) := by decide +kernel
theorem dX3_makeSigns_19 : decode cX3_makeSigns 19 = .ok (.invokevirtual 75, 3) := by decide +kernel
theorem dX3_makeSigns_22 : decode cX3_makeSigns 22 = .ok (.pop, 1) := by decide +kernel
theorem dX3_makeSigns_23 : decode cX3_makeSigns 23 = .ok (.return_, 1) := by decide +kernel
theorem dX3_look_0 : decode cX3_look 0 = .ok (.aload_n 0, 1) := by decide +kernel
theorem dX3_look_1 : decode cX3_look 1 = .ok (.aload_n 0, 1) := by decide +kernel
theorem dX3_look_2 : decode cX3_look 2 = .ok (.getfield 9, 3) := by decide +kernel
theorem dX3_look_5 : decode cX3_look 5 = .ok (.iload_n 1, 1) := by decide +kernel
theorem dX3_look_6 : decode cX3_look 6 = .ok (.iaload, 1) := by decide +kernel
theorem dX3_look_7 : decode cX3_look 7 = .ok (.putfield 79, 3) := by decide +kernel
theorem dX3_look_10 : decode cX3_look 10 = .ok (.aload_n 0, 1) := by decide +kernel
theorem dX3_look_11 : decode cX3_look 11 = .ok (.getfield 13, 3) := by decide +kernel
theorem dX3_look_14 : decode cX3_look 14 = .ok (.bipush 24, 2) := by decide +kernel
theorem dX3_look_16 : decode cX3_look 16 = .ok (.iload_n 1, 1) := by decide +kernel
theorem dX3_look_17 : decode cX3_look 17 = .ok (.imul, 1) := by decide +kernel
theorem dX3_look_18 : decode cX3_look 18 = .ok (.aload_n 0, 1) := by decide +kernel
theorem dX3_look_19 : decode cX3_look 19 = .ok (.getfield 19, 3) := by decide +kernel
theorem dX3_look_22 : decode cX3_look 22 = .ok (.iconst 0, 1) := by decide +kernel
theorem dX3_look_23 : decode cX3_look 23 = .ok (.aload_n 0, 1) := by decide +kernel
theorem dX3_look_24 : decode cX3_look 24 = .ok (.getfield 79, 3) := by decide +kernel
theorem dX3_look_27 : decode cX3_look 27 = .ok (.invokestatic 59, 3) := by decide +kernel
theorem dX3_look_30 : decode cX3_look 30 = .ok (.aload_n 0, 1) := by decide +kernel
theorem dX3_look_31 : decode cX3_look 31 = .ok (.invokevirtual 82, 3) := by decide +kernel
theorem dX3_look_34 : decode cX3_look 34 = .ok (.return_, 1) := by decide +kernel
theorem dX3_lookWithout_0 : decode cX3_lookWithout 0 = .ok (.aload_n 0, 1) := by decide +kernel
theorem dX3_lookWithout_1 : decode cX3_lookWithout 1 = .ok (.aload_n 0, 1) := by decide +kernel
theorem dX3_lookWithout_2 : decode cX3_lookWithout 2 = .ok (.getfield 9, 3) := by decide +kernel
theorem dX3_lookWithout_5 : decode cX3_lookWithout 5 = .ok (.iload_n 1, 1) := by decide +kernel
theorem dX3_lookWithout_6 : decode cX3_lookWithout 6 = .ok (.iaload, 1) := by decide +kernel
theorem dX3_lookWithout_7 : decode cX3_lookWithout 7 = .ok (.iconst 1, 1) := by decide +kernel
theorem dX3_lookWithout_8 : decode cX3_lookWithout 8 = .ok (.isub, 1) := by decide +kernel
theorem dX3_lookWithout_9 : decode cX3_lookWithout 9 = .ok (.putfield 79, 3) := by decide +kernel
theorem dX3_lookWithout_12 : decode cX3_lookWithout 12 = .ok (.aload_n 0, 1) := by decide +kernel
theorem dX3_lookWithout_13 : decode cX3_lookWithout 13 = .ok (.getfield 13, 3) := by decide +kernel
theorem dX3_lookWithout_16 : decode cX3_lookWithout 16 = .ok (.bipush 24, 2) := by decide +kernel
theorem dX3_lookWithout_18 : decode cX3_lookWithout 18 = .ok (.iload_n 1, 1) := by decide +kernel
theorem dX3_lookWithout_19 : decode cX3_lookWithout 19 = .ok (.imul, 1) := by decide +kernel
theorem dX3_lookWithout_20 : decode cX3_lookWithout 20 = .ok (.aload_n 0, 1) := by decide +kernel
theorem dX3_lookWithout_21 : decode cX3_lookWithout 21 = .ok (.getfield 19, 3) := by decide +kernel
theorem dX3_lookWithout_24 : decode cX3_lookWithout 24 = .ok (.iconst 0, 1) := by decide +kernel
theorem dX3_lookWithout_25 : decode cX3_lookWithout 25 = .ok (.iload_n 2, 1) := by decide +kernel
theorem dX3_lookWithout_26 : decode cX3_lookWithout 26 = .ok (.invokestatic 59, 3) := by decide +kernel
theorem dX3_lookWithout_29 : decode cX3_lookWithout 29 = .ok (.aload_n 0, 1) := by decide +kernel
theorem dX3_lookWithout_30 : decode cX3_lookWithout 30 = .ok (.getfield 13, 3) := by decide +kernel
theorem dX3_lookWithout_33 : decode cX3_lookWithout 33 = .ok (.bipush 24, 2) := by decide +kernel
theorem dX3_lookWithout_35 : decode cX3_lookWithout 35 = .ok (.iload_n 1, 1) := by decide +kernel
theorem dX3_lookWithout_36 : decode cX3_lookWithout 36 = .ok (.imul, 1) := by decide +kernel
theorem dX3_lookWithout_37 : decode cX3_lookWithout 37 = .ok (.iload_n 2, 1) := by decide +kernel
theorem dX3_lookWithout_38 : decode cX3_lookWithout 38 = .ok (.iadd, 1) := by decide +kernel
theorem dX3_lookWithout_39 : decode cX3_lookWithout 39 = .ok (.iconst 1, 1) := by decide +kernel
theorem dX3_lookWithout_40 : decode cX3_lookWithout 40 = .ok (.iadd, 1) := by decide +kernel
theorem dX3_lookWithout_41 : decode cX3_lookWithout 41 = .ok (.aload_n 0, 1) := by decide +kernel
theorem dX3_lookWithout_42 : decode cX3_lookWithout 42 = .ok (.getfield 19, 3) := by decide +kernel
theorem dX3_lookWithout_45 : decode cX3_lookWithout 45 = .ok (.iload_n 2, 1) := by decide +kernel
theorem dX3_lookWithout_46 : decode cX3_lookWithout 46 = .ok (.aload_n 0, 1) := by decide +kernel
theorem dX3_lookWithout_47 : decode cX3_lookWithout 47 = .ok (.getfield 79, 3) := by decide +kernel
theorem dX3_lookWithout_50 : decode cX3_lookWithout 50 = .ok (.iload_n 2, 1) := by decide +kernel
theorem dX3_lookWithout_51 : decode cX3_lookWithout 51 = .ok (.isub, 1) := by decide +kernel
theorem dX3_lookWithout_52 : decode cX3_lookWithout 52 = .ok (.invokestatic 59, 3) := by decide +kernel
theorem dX3_lookWithout_55 : decode cX3_lookWithout 55 = .ok (.aload_n 0, 1) := by decide +kernel
theorem dX3_lookWithout_56 : decode cX3_lookWithout 56 = .ok (.invokevirtual 82, 3) := by decide +kernel
theorem dX3_lookWithout_59 : decode cX3_lookWithout 59 = .ok (.return_, 1) := by decide +kernel
theorem dX3_lookAtBoth_0 : decode cX3_lookAtBoth 0 = .ok (.aload_n 0, 1) := by decide +kernel
theorem dX3_lookAtBoth_1 : decode cX3_lookAtBoth 1 = .ok (.iconst 0, 1) := by decide +kernel
theorem dX3_lookAtBoth_2 : decode cX3_lookAtBoth 2 = .ok (.putfield 79, 3) := by decide +kernel
theorem dX3_lookAtBoth_5 : decode cX3_lookAtBoth 5 = .ok (.iconst 0, 1) := by decide +kernel
theorem dX3_lookAtBoth_6 : decode cX3_lookAtBoth 6 = .ok (.istore_n 1, 1) := by decide +kernel
theorem dX3_lookAtBoth_7 : decode cX3_lookAtBoth 7 = .ok (.iconst 0, 1) := by decide +kernel
theorem dX3_lookAtBoth_8 : decode cX3_lookAtBoth 8 = .ok (.istore_n 2, 1) := by decide +kernel
theorem dX3_lookAtBoth_9 : decode cX3_lookAtBoth 9 = .ok (.iload_n 1, 1) := by decide +kernel
theorem dX3_lookAtBoth_10 : decode cX3_lookAtBoth 10 = .ok (.aload_n 0, 1) := by decide +kernel
theorem dX3_lookAtBoth_11 : decode cX3_lookAtBoth 11 = .ok (.getfield 9, 3) := by decide +kernel
theorem dX3_lookAtBoth_14 : decode cX3_lookAtBoth 14 = .ok (.iconst 0, 1) := by decide +kernel
theorem dX3_lookAtBoth_15 : decode cX3_lookAtBoth 15 = .ok (.iaload, 1) := by decide +kernel
theorem dX3_lookAtBoth_16 : decode cX3_lookAtBoth 16 = .ok (.if_icmp .lt 13, 3) := by decide +kernel
theorem dX3_lookAtBoth_19 : decode cX3_lookAtBoth 19 = .ok (.iload_n 2, 1) := by decide +kernel
theorem dX3_lookAtBoth_20 : decode cX3_lookAtBoth 20 = .ok (.aload_n 0, 1) := by decide +kernel
theorem dX3_lookAtBoth_21 : decode cX3_lookAtBoth 21 = .ok (.getfield 9, 3) := by decide +kernel
theorem dX3_lookAtBoth_24 : decode cX3_lookAtBoth 24 = .ok (.iconst 1, 1) := by decide +kernel
theorem dX3_lookAtBoth_25 : decode cX3_lookAtBoth 25 = .ok (.iaload, 1) := by decide +kernel
theorem dX3_lookAtBoth_26 : decode cX3_lookAtBoth 26 = .ok (.if_icmp .ge 107, 3) := by decide +kernel
theorem dX3_lookAtBoth_29 : decode cX3_lookAtBoth 29 = .ok (.iload_n 1, 1) := by decide +kernel
theorem dX3_lookAtBoth_30 : decode cX3_lookAtBoth 30 = .ok (.aload_n 0, 1) := by decide +kernel
theorem dX3_lookAtBoth_31 : decode cX3_lookAtBoth 31 = .ok (.getfield 9, 3) := by decide +kernel
theorem dX3_lookAtBoth_34 : decode cX3_lookAtBoth 34 = .ok (.iconst 0, 1) := by decide +kernel
theorem dX3_lookAtBoth_35 : decode cX3_lookAtBoth 35 = .ok (.iaload, 1) := by decide +kernel
theorem dX3_lookAtBoth_36 : decode cX3_lookAtBoth 36 = .ok (.if_icmp .ge 12, 3) := by decide +kernel
theorem dX3_lookAtBoth_39 : decode cX3_lookAtBoth 39 = .ok (.aload_n 0, 1) := by decide +kernel
theorem dX3_lookAtBoth_40 : decode cX3_lookAtBoth 40 = .ok (.getfield 13, 3) := by decide +kernel
theorem dX3_lookAtBoth_43 : decode cX3_lookAtBoth 43 = .ok (.iload_n 1, 1) := by decide +kernel
theorem dX3_lookAtBoth_44 : decode cX3_lookAtBoth 44 = .ok (.iaload, 1) := by decide +kernel
theorem dX3_lookAtBoth_45 : decode cX3_lookAtBoth 45 = .ok (.goto 5, 3) := by decide +kernel
theorem dX3_lookAtBoth_48 : decode cX3_lookAtBoth 48 = .ok (.ldc 85, 2) := by decide +kernel
theorem dX3_lookAtBoth_50 : decode cX3_lookAtBoth 50 = .ok (.istore_n 3, 1) := by decide +kernel
theorem dX3_lookAtBoth_51 : decode cX3_lookAtBoth 51 = .ok (.iload_n 2, 1) := by decide +kernel
theorem dX3_lookAtBoth_52 : decode cX3_lookAtBoth 52 = .ok (.aload_n 0, 1) := by decide +kernel
theorem dX3_lookAtBoth_53 : decode cX3_lookAtBoth 53 = .ok (.getfield 9, 3) := by decide +kernel
theorem dX3_lookAtBoth_56 : decode cX3_lookAtBoth 56 = .ok (.iconst 1, 1) := by decide +kernel
theorem dX3_lookAtBoth_57 : decode cX3_lookAtBoth 57 = .ok (.iaload, 1) := by decide +kernel
theorem dX3_lookAtBoth_58 : decode cX3_lookAtBoth 58 = .ok (.if_icmp .ge 15, 3) := by decide +kernel
theorem dX3_lookAtBoth_61 : decode cX3_lookAtBoth 61 = .ok (.aload_n 0, 1) := by decide +kernel
theorem dX3_lookAtBoth_62 : decode cX3_lookAtBoth 62 = .ok (.getfield 13, 3) := by decide +kernel
theorem dX3_lookAtBoth_65 : decode cX3_lookAtBoth 65 = .ok (.bipush 24, 2) := by decide +kernel
theorem dX3_lookAtBoth_67 : decode cX3_lookAtBoth 67 = .ok (.iload_n 2, 1) := by decide +kernel
theorem dX3_lookAtBoth_68 : decode cX3_lookAtBoth 68 = .ok (.iadd, 1) := by decide +kernel
theorem dX3_lookAtBoth_69 : decode cX3_lookAtBoth 69 = .ok (.iaload, 1) := by decide +kernel
theorem dX3_lookAtBoth_70 : decode cX3_lookAtBoth 70 = .ok (.goto 5, 3) := by decide +kernel
theorem dX3_lookAtBoth_73 : decode cX3_lookAtBoth 73 = .ok (.ldc 85, 2) := by decide +kernel
theorem dX3_lookAtBoth_75 : decode cX3_lookAtBoth 75 = .ok (.istore 4, 2) := by decide +kernel
theorem dX3_lookAtBoth_77 : decode cX3_lookAtBoth 77 = .ok (.aload_n 0, 1) := by decide +kernel
theorem dX3_lookAtBoth_78 : decode cX3_lookAtBoth 78 = .ok (.getfield 19, 3) := by decide +kernel
theorem dX3_lookAtBoth_81 : decode cX3_lookAtBoth 81 = .ok (.aload_n 0, 1) := by decide +kernel
theorem dX3_lookAtBoth_82 : decode cX3_lookAtBoth 82 = .ok (.getfield 79, 3) := by decide +kernel
theorem dX3_lookAtBoth_85 : decode cX3_lookAtBoth 85 = .ok (.iload_n 3, 1) := by decide +kernel
theorem dX3_lookAtBoth_86 : decode cX3_lookAtBoth 86 = .ok (.iload 4, 2) := by decide +kernel
theorem dX3_lookAtBoth_88 : decode cX3_lookAtBoth 88 = .ok (.invokestatic 86, 3) := by decide +kernel
theorem dX3_lookAtBoth_91 : decode cX3_lookAtBoth 91 = .ok (.iastore, 1) := by decide +kernel
theorem dX3_lookAtBoth_92 : decode cX3_lookAtBoth 92 = .ok (.aload_n 0, 1) := by decide +kernel
theorem dX3_lookAtBoth_93 : decode cX3_lookAtBoth 93 = .ok (.dup, 1) := by decide +kernel
theorem dX3_lookAtBoth_94 : decode cX3_lookAtBoth 94 = .ok (.getfield 79, 3) := by decide +kernel
theorem dX3_lookAtBoth_97 : decode cX3_lookAtBoth 97 = .ok (.iconst 1, 1) := by decide +kernel
theorem dX3_lookAtBoth_98 : decode cX3_lookAtBoth 98 = .ok (.iadd, 1) := by decide +kernel
theorem dX3_lookAtBoth_99 : decode cX3_lookAtBoth 99 = .ok (.putfield 79, 3) := by decide +kernel
theorem dX3_lookAtBoth_102 : decode cX3_lookAtBoth 102 = .ok (.iload_n 1, 1) := by decide +kernel
theorem dX3_lookAtBoth_103 : decode cX3_lookAtBoth 103 = .ok (.iload_n 3, 1) := by decide +kernel
theorem dX3_lookAtBoth_104 : decode cX3_lookAtBoth 104 = .ok (.iload 4, 2) := by decide +kernel
theorem dX3_lookAtBoth_106 : decode cX3_lookAtBoth 106 = .ok (.if_icmp .gt 7, 3) := by decide +kernel
theorem dX3_lookAtBoth_109 : decode cX3_lookAtBoth 109 = .ok (.iconst 1, 1) := by decide +kernel
theorem dX3_lookAtBoth_110 : decode cX3_lookAtBoth 110 = .ok (.goto 4, 3) := by decide +kernel
theorem dX3_lookAtBoth_113 : decode cX3_lookAtBoth 113 = .ok (.iconst 0, 1) := by decide +kernel
theorem dX3_lookAtBoth_114 : decode cX3_lookAtBoth 114 = .ok (.iadd, 1) := by decide +kernel
theorem dX3_lookAtBoth_115 : decode cX3_lookAtBoth 115 = .ok (.istore_n 1, 1) := by decide +kernel
theorem dX3_lookAtBoth_116 : decode cX3_lookAtBoth 116 = .ok (.iload_n 2, 1) := by decide +kernel
theorem dX3_lookAtBoth_117 : decode cX3_lookAtBoth 117 = .ok (.iload 4, 2) := by decide +kernel
theorem dX3_lookAtBoth_119 : decode cX3_lookAtBoth 119 = .ok (.iload_n 3, 1) := by decide +kernel
theorem dX3_lookAtBoth_120 : decode cX3_lookAtBoth 120 = .ok (.if_icmp .gt 7, 3) := by decide +kernel
theorem dX3_lookAtBoth_123 : decode cX3_lookAtBoth 123 = .ok (.iconst 1, 1) := by decide +kernel
theorem dX3_lookAtBoth_124 : decode cX3_lookAtBoth 124 = .ok (.goto 4, 3) := by decide +kernel
theorem dX3_lookAtBoth_127 : decode cX3_lookAtBoth 127 = .ok (.iconst 0, 1) := by decide +kernel
theorem dX3_lookAtBoth_128 : decode cX3_lookAtBoth 128 = .ok (.iadd, 1) := by decide +kernel
theorem dX3_lookAtBoth_129 : decode cX3_lookAtBoth 129 = .ok (.istore_n 2, 1) := by decide +kernel
theorem dX3_lookAtBoth_130 : decode cX3_lookAtBoth 130 = .ok (.goto (-121), 3) := by decide +kernel
theorem dX3_lookAtBoth_133 : decode cX3_lookAtBoth 133 = .ok (.aload_n 0, 1) := by decide +kernel
theorem dX3_lookAtBoth_134 : decode cX3_lookAtBoth 134 = .ok (.invokevirtual 82, 3) := by decide +kernel
theorem dX3_lookAtBoth_137 : decode cX3_lookAtBoth 137 = .ok (.return_, 1) := by decide +kernel
theorem dX3_longest_0 : decode cX3_longest 0 = .ok (.iconst 0, 1) := by decide +kernel
theorem dX3_longest_1 : decode cX3_longest 1 = .ok (.istore_n 1, 1) := by decide +kernel
theorem dX3_longest_2 : decode cX3_longest 2 = .ok (.iconst 0, 1) := by decide +kernel
theorem dX3_longest_3 : decode cX3_longest 3 = .ok (.istore_n 2, 1) := by decide +kernel
theorem dX3_longest_4 : decode cX3_longest 4 = .ok (.iload_n 2, 1) := by decide +kernel
theorem dX3_longest_5 : decode cX3_longest 5 = .ok (.aload_n 0, 1) := by decide +kernel
theorem dX3_longest_6 : decode cX3_longest 6 = .ok (.getfield 69, 3) := by decide +kernel
theorem dX3_longest_9 : decode cX3_longest 9 = .ok (.if_icmp .ge 20, 3) := by decide +kernel
theorem dX3_longest_12 : decode cX3_longest 12 = .ok (.iload_n 1, 1) := by decide +kernel
theorem dX3_longest_13 : decode cX3_longest 13 = .ok (.aload_n 0, 1) := by decide +kernel
theorem dX3_longest_14 : decode cX3_longest 14 = .ok (.getfield 37, 3) := by decide +kernel
theorem dX3_longest_17 : decode cX3_longest 17 = .ok (.iload_n 2, 1) := by decide +kernel
theorem dX3_longest_18 : decode cX3_longest 18 = .ok (.iaload, 1) := by decide +kernel
theorem dX3_longest_19 : decode cX3_longest 19 = .ok (.invokestatic 91, 3) := by decide +kernel
theorem dX3_longest_22 : decode cX3_longest 22 = .ok (.istore_n 1, 1) := by decide +kernel
theorem dX3_longest_23 : decode cX3_longest 23 = .ok (.iinc 2 1, 3) := by decide +kernel
theorem dX3_longest_26 : decode cX3_longest 26 = .ok (.goto (-22), 3) := by decide +kernel
theorem dX3_longest_29 : decode cX3_longest 29 = .ok (.iload_n 1, 1) := by decide +kernel
theorem dX3_longest_30 : decode cX3_longest 30 = .ok (.ireturn, 1) := by decide +kernel
theorem dX3_allPaths_0 : decode cX3_allPaths 0 = .ok (.iconst 0, 1) := by decide +kernel
theorem dX3_allPaths_1 : decode cX3_allPaths 1 = .ok (.istore_n 1, 1) := by decide +kernel
theorem dX3_allPaths_2 : decode cX3_allPaths 2 = .ok (.iconst 0, 1) := by decide +kernel
theorem dX3_allPaths_3 : decode cX3_allPaths 3 = .ok (.istore_n 2, 1) := by decide +kernel
theorem dX3_allPaths_4 : decode cX3_allPaths 4 = .ok (.iload_n 2, 1) := by decide +kernel
theorem dX3_allPaths_5 : decode cX3_allPaths 5 = .ok (.aload_n 0, 1) := by decide +kernel
theorem dX3_allPaths_6 : decode cX3_allPaths 6 = .ok (.getfield 69, 3) := by decide +kernel
theorem dX3_allPaths_9 : decode cX3_allPaths 9 = .ok (.if_icmp .ge 32, 3) := by decide +kernel
theorem dX3_allPaths_12 : decode cX3_allPaths 12 = .ok (.iload_n 1, 1) := by decide +kernel
theorem dX3_allPaths_13 : decode cX3_allPaths 13 = .ok (.aload_n 0, 1) := by decide +kernel
theorem dX3_allPaths_14 : decode cX3_allPaths 14 = .ok (.getfield 22, 3) := by decide +kernel
theorem dX3_allPaths_17 : decode cX3_allPaths 17 = .ok (.iload_n 2, 1) := by decide +kernel
theorem dX3_allPaths_18 : decode cX3_allPaths 18 = .ok (.iaload, 1) := by decide +kernel
theorem dX3_allPaths_19 : decode cX3_allPaths 19 = .ok (.iconst (-1), 1) := by decide +kernel
theorem dX3_allPaths_20 : decode cX3_allPaths 20 = .ok (.if_icmp .ne 12, 3) := by decide +kernel
theorem dX3_allPaths_23 : decode cX3_allPaths 23 = .ok (.aload_n 0, 1) := by decide +kernel
theorem dX3_allPaths_24 : decode cX3_allPaths 24 = .ok (.getfield 37, 3) := by decide +kernel
theorem dX3_allPaths_27 : decode cX3_allPaths 27 = .ok (.iload_n 2, 1) := by decide +kernel
theorem dX3_allPaths_28 : decode cX3_allPaths 28 = .ok (.iaload, 1) := by decide +kernel
theorem dX3_allPaths_29 : decode cX3_allPaths 29 = .ok (.goto 4, 3) := by decide +kernel
theorem dX3_allPaths_32 : decode cX3_allPaths 32 = .ok (.iconst 0, 1) := by decide +kernel
theorem dX3_allPaths_33 : decode cX3_allPaths 33 = .ok (.iadd, 1) := by decide +kernel
theorem dX3_allPaths_34 : decode cX3_allPaths 34 = .ok (.istore_n 1, 1) := by decide +kernel
theorem dX3_allPaths_35 : decode cX3_allPaths 35 = .ok (.iinc 2 1, 3) := by decide +kernel
theorem dX3_allPaths_38 : decode cX3_allPaths 38 = .ok (.goto (-34), 3) := by decide +kernel
theorem dX3_allPaths_41 : decode cX3_allPaths 41 = .ok (.iload_n 1, 1) := by decide +kernel
theorem dX3_allPaths_42 : decode cX3_allPaths 42 = .ok (.ireturn, 1) := by decide +kernel
theorem dX3_shared_0 : decode cX3_shared 0 = .ok (.iload_n 0, 1) := by decide +kernel
theorem dX3_shared_1 : decode cX3_shared 1 = .ok (.iload_n 1, 1) := by decide +kernel
theorem dX3_shared_2 : decode cX3_shared 2 = .ok (.if_icmp .ne 8, 3) := by decide +kernel
theorem dX3_shared_5 : decode cX3_shared 5 = .ok (.bipush 16, 2) := by decide +kernel
theorem dX3_shared_7 : decode cX3_shared 7 = .ok (.goto 12, 3) := by decide +kernel
theorem dX3_shared_10 : decode cX3_shared 10 = .ok (.bipush 15, 2) := by decide +kernel
theorem dX3_shared_12 : decode cX3_shared 12 = .ok (.iload_n 0, 1) := by decide +kernel
theorem dX3_shared_13 : decode cX3_shared 13 = .ok (.iload_n 1, 1) := by decide +kernel
theorem dX3_shared_14 : decode cX3_shared 14 = .ok (.ixor, 1) := by decide +kernel
theorem dX3_shared_15 : decode cX3_shared 15 = .ok (.invokestatic 72, 3) := by decide +kernel
theorem dX3_shared_18 : decode cX3_shared 18 = .ok (.isub, 1) := by decide +kernel
theorem dX3_shared_19 : decode cX3_shared 19 = .ok (.ireturn, 1) := by decide +kernel
theorem dX3_bitsOfPosts_0 : decode cX3_bitsOfPosts 0 = .ok (.iconst 0, 1) := by decide +kernel
theorem dX3_bitsOfPosts_1 : decode cX3_bitsOfPosts 1 = .ok (.istore_n 1, 1) := by decide +kernel
theorem dX3_bitsOfPosts_2 : decode cX3_bitsOfPosts 2 = .ok (.iconst 0, 1) := by decide +kernel
theorem dX3_bitsOfPosts_3 : decode cX3_bitsOfPosts 3 = .ok (.istore_n 2, 1) := by decide +kernel
theorem dX3_bitsOfPosts_4 : decode cX3_bitsOfPosts 4 = .ok (.iload_n 2, 1) := by decide +kernel
theorem dX3_bitsOfPosts_5 : decode cX3_bitsOfPosts 5 = .ok (.aload_n 0, 1) := by decide +kernel
theorem dX3_bitsOfPosts_6 : decode cX3_bitsOfPosts 6 = .ok (.getfield 69, 3) := by decide +kernel
theorem dX3_bitsOfPosts_9 : decode cX3_bitsOfPosts 9 = .ok (.if_icmp .ge 34, 3) := by decide +kernel
theorem dX3_bitsOfPosts_12 : decode cX3_bitsOfPosts 12 = .ok (.iload_n 1, 1) := by decide +kernel
theorem dX3_bitsOfPosts_13 : decode cX3_bitsOfPosts 13 = .ok (.aload_n 0, 1) := by decide +kernel
theorem dX3_bitsOfPosts_14 : decode cX3_bitsOfPosts 14 = .ok (.getfield 22, 3) := by decide +kernel
theorem dX3_bitsOfPosts_17 : decode cX3_bitsOfPosts 17 = .ok (.iload_n 2, 1) := by decide +kernel
theorem dX3_bitsOfPosts_18 : decode cX3_bitsOfPosts 18 = .ok (.iaload, 1) := by decide +kernel
theorem dX3_bitsOfPosts_19 : decode cX3_bitsOfPosts 19 = .ok (.iconst (-1), 1) := by decide +kernel
theorem dX3_bitsOfPosts_20 : decode cX3_bitsOfPosts 20 = .ok (.if_icmp .ne 7, 3) := by decide +kernel
theorem dX3_bitsOfPosts_23 : decode cX3_bitsOfPosts 23 = .ok (.iconst 0, 1) := by decide +kernel
theorem dX3_bitsOfPosts_24 : decode cX3_bitsOfPosts 24 = .ok (.goto 11, 3) := by decide +kernel
theorem dX3_bitsOfPosts_27 : decode cX3_bitsOfPosts 27 = .ok (.iconst 1, 1) := by decide +kernel
theorem dX3_bitsOfPosts_28 : decode cX3_bitsOfPosts 28 = .ok (.aload_n 0, 1) := by decide +kernel
theorem dX3_bitsOfPosts_29 : decode cX3_bitsOfPosts 29 = .ok (.getfield 22, 3) := by decide +kernel
theorem dX3_bitsOfPosts_32 : decode cX3_bitsOfPosts 32 = .ok (.iload_n 2, 1) := by decide +kernel
theorem dX3_bitsOfPosts_33 : decode cX3_bitsOfPosts 33 = .ok (.iaload, 1) := by decide +kernel
theorem dX3_bitsOfPosts_34 : decode cX3_bitsOfPosts 34 = .ok (.ishl, 1) := by decide +kernel
theorem dX3_bitsOfPosts_35 : decode cX3_bitsOfPosts 35 = .ok (.ior, 1) := by decide +kernel
theorem dX3_bitsOfPosts_36 : decode cX3_bitsOfPosts 36 = .ok (.istore_n 1, 1) := by decide +kernel
theorem dX3_bitsOfPosts_37 : decode cX3_bitsOfPosts 37 = .ok (.iinc 2 1, 3) := by decide +kernel
theorem dX3_bitsOfPosts_40 : decode cX3_bitsOfPosts 40 = .ok (.goto (-36), 3) := by decide +kernel
theorem dX3_bitsOfPosts_43 : decode cX3_bitsOfPosts 43 = .ok (.iload_n 1, 1) := by decide +kernel
theorem dX3_bitsOfPosts_44 : decode cX3_bitsOfPosts 44 = .ok (.ireturn, 1) := by decide +kernel
theorem dX3_walkTo_0 : decode cX3_walkTo 0 = .ok (.iconst 0, 1) := by decide +kernel
theorem dX3_walkTo_1 : decode cX3_walkTo 1 = .ok (.istore_n 2, 1) := by decide +kernel
theorem dX3_walkTo_2 : decode cX3_walkTo 2 = .ok (.aload_n 0, 1) := by decide +kernel
theorem dX3_walkTo_3 : decode cX3_walkTo 3 = .ok (.getfield 22, 3) := by decide +kernel
theorem dX3_walkTo_6 : decode cX3_walkTo 6 = .ok (.iload_n 2, 1) := by decide +kernel
theorem dX3_walkTo_7 : decode cX3_walkTo 7 = .ok (.iaload, 1) := by decide +kernel
theorem dX3_walkTo_8 : decode cX3_walkTo 8 = .ok (.iconst (-1), 1) := by decide +kernel
theorem dX3_walkTo_9 : decode cX3_walkTo 9 = .ok (.if_icmp .eq 35, 3) := by decide +kernel
theorem dX3_walkTo_12 : decode cX3_walkTo 12 = .ok (.iload_n 1, 1) := by decide +kernel
theorem dX3_walkTo_13 : decode cX3_walkTo 13 = .ok (.aload_n 0, 1) := by decide +kernel
theorem dX3_walkTo_14 : decode cX3_walkTo 14 = .ok (.getfield 22, 3) := by decide +kernel
theorem dX3_walkTo_17 : decode cX3_walkTo 17 = .ok (.iload_n 2, 1) := by decide +kernel
theorem dX3_walkTo_18 : decode cX3_walkTo 18 = .ok (.iaload, 1) := by decide +kernel
theorem dX3_walkTo_19 : decode cX3_walkTo 19 = .ok (.ishr, 1) := by decide +kernel
theorem dX3_walkTo_20 : decode cX3_walkTo 20 = .ok (.iconst 1, 1) := by decide +kernel
theorem dX3_walkTo_21 : decode cX3_walkTo 21 = .ok (.iand, 1) := by decide +kernel
theorem dX3_walkTo_22 : decode cX3_walkTo 22 = .ok (.ifCond .ne 12, 3) := by decide +kernel
theorem dX3_walkTo_25 : decode cX3_walkTo 25 = .ok (.aload_n 0, 1) := by decide +kernel
theorem dX3_walkTo_26 : decode cX3_walkTo 26 = .ok (.getfield 31, 3) := by decide +kernel
theorem dX3_walkTo_29 : decode cX3_walkTo 29 = .ok (.iload_n 2, 1) := by decide +kernel
theorem dX3_walkTo_30 : decode cX3_walkTo 30 = .ok (.iaload, 1) := by decide +kernel
theorem dX3_walkTo_31 : decode cX3_walkTo 31 = .ok (.goto 9, 3) := by decide +kernel
theorem dX3_walkTo_34 : decode cX3_walkTo 34 = .ok (.aload_n 0, 1) := by decide +kernel
theorem dX3_walkTo_35 : decode cX3_walkTo 35 = .ok (.getfield 34, 3) := by decide +kernel
theorem dX3_walkTo_38 : decode cX3_walkTo 38 = .ok (.iload_n 2, 1) := by decide +kernel
theorem dX3_walkTo_39 : decode cX3_walkTo 39 = .ok (.iaload, 1) := by decide +kernel
theorem dX3_walkTo_40 : decode cX3_walkTo 40 = .ok (.istore_n 2, 1) := by decide +kernel
theorem dX3_walkTo_41 : decode cX3_walkTo 41 = .ok (.goto (-39), 3) := by decide +kernel
theorem dX3_walkTo_44 : decode cX3_walkTo 44 = .ok (.iload_n 2, 1) := by decide +kernel
theorem dX3_walkTo_45 : decode cX3_walkTo 45 = .ok (.ireturn, 1) := by decide +kernel
theorem dX3_put_0 : decode cX3_put 0 = .ok (.aload_n 0, 1) := by decide +kernel
theorem dX3_put_1 : decode cX3_put 1 = .ok (.iconst 0, 1) := by decide +kernel
theorem dX3_put_2 : decode cX3_put 2 = .ok (.putfield 40, 3) := by decide +kernel
theorem dX3_put_5 : decode cX3_put 5 = .ok (.iload_n 1, 1) := by decide +kernel
theorem dX3_put_6 : decode cX3_put 6 = .ok (.invokestatic 94, 3) := by decide +kernel
theorem dX3_put_9 : decode cX3_put 9 = .ok (.ifCond .ne 9, 3) := by decide +kernel
theorem dX3_put_12 : decode cX3_put 12 = .ok (.aload_n 0, 1) := by decide +kernel
theorem dX3_put_13 : decode cX3_put 13 = .ok (.iconst 1, 1) := by decide +kernel
theorem dX3_put_14 : decode cX3_put 14 = .ok (.invokevirtual 98, 3) := by decide +kernel
theorem dX3_put_17 : decode cX3_put 17 = .ok (.ireturn, 1) := by decide +kernel
theorem dX3_put_18 : decode cX3_put 18 = .ok (.iload_n 2, 1) := by decide +kernel
theorem dX3_put_19 : decode cX3_put 19 = .ok (.invokestatic 101, 3) := by decide +kernel
theorem dX3_put_22 : decode cX3_put 22 = .ok (.ifCond .eq 14, 3) := by decide +kernel
theorem dX3_put_25 : decode cX3_put 25 = .ok (.iload_n 3, 1) := by decide +kernel
theorem dX3_put_26 : decode cX3_put 26 = .ok (.iconst 0, 1) := by decide +kernel
theorem dX3_put_27 : decode cX3_put 27 = .ok (.sipush 999, 3) := by decide +kernel
theorem dX3_put_30 : decode cX3_put 30 = .ok (.invokestatic 44, 3) := by decide +kernel
theorem dX3_put_33 : decode cX3_put 33 = .ok (.ifCond .ne 9, 3) := by decide +kernel
theorem dX3_put_36 : decode cX3_put 36 = .ok (.aload_n 0, 1) := by decide +kernel
theorem dX3_put_37 : decode cX3_put 37 = .ok (.iconst 2, 1) := by decide +kernel
theorem dX3_put_38 : decode cX3_put 38 = .ok (.invokevirtual 98, 3) := by decide +kernel
theorem dX3_put_41 : decode cX3_put 41 = .ok (.ireturn, 1) := by decide +kernel
theorem dX3_put_42 : decode cX3_put 42 = .ok (.aload_n 0, 1) := by decide +kernel
theorem dX3_put_43 : decode cX3_put 43 = .ok (.iload_n 1, 1) := by decide +kernel
theorem dX3_put_44 : decode cX3_put 44 = .ok (.iload_n 2, 1) := by decide +kernel
theorem dX3_put_45 : decode cX3_put 45 = .ok (.invokevirtual 65, 3) := by decide +kernel
theorem dX3_put_48 : decode cX3_put 48 = .ok (.ifCond .eq 36, 3) := by decide +kernel
theorem dX3_put_51 : decode cX3_put 51 = .ok (.bipush 24, 2) := by decide +kernel
theorem dX3_put_53 : decode cX3_put 53 = .ok (.iload_n 1, 1) := by decide +kernel
theorem dX3_put_54 : decode cX3_put 54 = .ok (.imul, 1) := by decide +kernel
theorem dX3_put_55 : decode cX3_put 55 = .ok (.aload_n 0, 1) := by decide +kernel
theorem dX3_put_56 : decode cX3_put 56 = .ok (.iload_n 1, 1) := by decide +kernel
theorem dX3_put_57 : decode cX3_put 57 = .ok (.iload_n 2, 1) := by decide +kernel
theorem dX3_put_58 : decode cX3_put 58 = .ok (.invokevirtual 55, 3) := by decide +kernel
theorem dX3_put_61 : decode cX3_put 61 = .ok (.iadd, 1) := by decide +kernel
theorem dX3_put_62 : decode cX3_put 62 = .ok (.istore 4, 2) := by decide +kernel
theorem dX3_put_64 : decode cX3_put 64 = .ok (.aload_n 0, 1) := by decide +kernel
theorem dX3_put_65 : decode cX3_put 65 = .ok (.getfield 16, 3) := by decide +kernel
theorem dX3_put_68 : decode cX3_put 68 = .ok (.iload 4, 2) := by decide +kernel
theorem dX3_put_70 : decode cX3_put 70 = .ok (.iaload, 1) := by decide +kernel
theorem dX3_put_71 : decode cX3_put 71 = .ok (.istore 5, 2) := by decide +kernel
theorem dX3_put_73 : decode cX3_put 73 = .ok (.aload_n 0, 1) := by decide +kernel
theorem dX3_put_74 : decode cX3_put 74 = .ok (.getfield 16, 3) := by decide +kernel
theorem dX3_put_77 : decode cX3_put 77 = .ok (.iload 4, 2) := by decide +kernel
theorem dX3_put_79 : decode cX3_put 79 = .ok (.iload_n 3, 1) := by decide +kernel
theorem dX3_put_80 : decode cX3_put 80 = .ok (.iastore, 1) := by decide +kernel
theorem dX3_put_81 : decode cX3_put 81 = .ok (.iload 5, 2) := by decide +kernel
theorem dX3_put_83 : decode cX3_put 83 = .ok (.ireturn, 1) := by decide +kernel
theorem dX3_put_84 : decode cX3_put 84 = .ok (.aload_n 0, 1) := by decide +kernel
theorem dX3_put_85 : decode cX3_put 85 = .ok (.getfield 9, 3) := by decide +kernel
theorem dX3_put_88 : decode cX3_put 88 = .ok (.iload_n 1, 1) := by decide +kernel
theorem dX3_put_89 : decode cX3_put 89 = .ok (.iaload, 1) := by decide +kernel
theorem dX3_put_90 : decode cX3_put 90 = .ok (.bipush 24, 2) := by decide +kernel
theorem dX3_put_92 : decode cX3_put 92 = .ok (.if_icmp .ne 9, 3) := by decide +kernel
theorem dX3_put_95 : decode cX3_put 95 = .ok (.aload_n 0, 1) := by decide +kernel
theorem dX3_put_96 : decode cX3_put 96 = .ok (.iconst 3, 1) := by decide +kernel
theorem dX3_put_97 : decode cX3_put 97 = .ok (.invokevirtual 98, 3) := by decide +kernel
theorem dX3_put_100 : decode cX3_put 100 = .ok (.ireturn, 1) := by decide +kernel
theorem dX3_put_101 : decode cX3_put 101 = .ok (.aload_n 0, 1) := by decide +kernel
theorem dX3_put_102 : decode cX3_put 102 = .ok (.iload_n 1, 1) := by decide +kernel
theorem dX3_put_103 : decode cX3_put 103 = .ok (.iload_n 2, 1) := by decide +kernel
theorem dX3_put_104 : decode cX3_put 104 = .ok (.iload_n 3, 1) := by decide +kernel
theorem dX3_put_105 : decode cX3_put 105 = .ok (.invokevirtual 104, 3) := by decide +kernel
theorem dX3_put_108 : decode cX3_put 108 = .ok (.iconst (-1), 1) := by decide +kernel
theorem dX3_put_109 : decode cX3_put 109 = .ok (.ireturn, 1) := by decide +kernel
theorem dX3_take_0 : decode cX3_take 0 = .ok (.aload_n 0, 1) := by decide +kernel
theorem dX3_take_1 : decode cX3_take 1 = .ok (.iconst 0, 1) := by decide +kernel
theorem dX3_take_2 : decode cX3_take 2 = .ok (.putfield 40, 3) := by decide +kernel
theorem dX3_take_5 : decode cX3_take 5 = .ok (.iload_n 1, 1) := by decide +kernel
theorem dX3_take_6 : decode cX3_take 6 = .ok (.invokestatic 94, 3) := by decide +kernel
theorem dX3_take_9 : decode cX3_take 9 = .ok (.ifCond .ne 9, 3) := by decide +kernel
theorem dX3_take_12 : decode cX3_take 12 = .ok (.aload_n 0, 1) := by decide +kernel
theorem dX3_take_13 : decode cX3_take 13 = .ok (.iconst 1, 1) := by decide +kernel
theorem dX3_take_14 : decode cX3_take 14 = .ok (.invokevirtual 98, 3) := by decide +kernel
theorem dX3_take_17 : decode cX3_take 17 = .ok (.ireturn, 1) := by decide +kernel
theorem dX3_take_18 : decode cX3_take 18 = .ok (.iload_n 2, 1) := by decide +kernel
theorem dX3_take_19 : decode cX3_take 19 = .ok (.invokestatic 101, 3) := by decide +kernel
theorem dX3_take_22 : decode cX3_take 22 = .ok (.ifCond .ne 9, 3) := by decide +kernel
theorem dX3_take_25 : decode cX3_take 25 = .ok (.aload_n 0, 1) := by decide +kernel
theorem dX3_take_26 : decode cX3_take 26 = .ok (.iconst 2, 1) := by decide +kernel
theorem dX3_take_27 : decode cX3_take 27 = .ok (.invokevirtual 98, 3) := by decide +kernel
theorem dX3_take_30 : decode cX3_take 30 = .ok (.ireturn, 1) := by decide +kernel
theorem dX3_take_31 : decode cX3_take 31 = .ok (.aload_n 0, 1) := by decide +kernel
theorem dX3_take_32 : decode cX3_take 32 = .ok (.iload_n 1, 1) := by decide +kernel
theorem dX3_take_33 : decode cX3_take 33 = .ok (.iload_n 2, 1) := by decide +kernel
theorem dX3_take_34 : decode cX3_take 34 = .ok (.invokevirtual 65, 3) := by decide +kernel
theorem dX3_take_37 : decode cX3_take 37 = .ok (.ifCond .eq 12, 3) := by decide +kernel
theorem dX3_take_40 : decode cX3_take 40 = .ok (.aload_n 0, 1) := by decide +kernel
theorem dX3_take_41 : decode cX3_take 41 = .ok (.iload_n 1, 1) := by decide +kernel
theorem dX3_take_42 : decode cX3_take 42 = .ok (.iload_n 2, 1) := by decide +kernel
theorem dX3_take_43 : decode cX3_take 43 = .ok (.invokevirtual 108, 3) := by decide +kernel
theorem dX3_take_46 : decode cX3_take 46 = .ok (.goto 8, 3) := by decide +kernel
theorem dX3_take_49 : decode cX3_take 49 = .ok (.aload_n 0, 1) := by decide +kernel
theorem dX3_take_50 : decode cX3_take 50 = .ok (.iconst 3, 1) := by decide +kernel
theorem dX3_take_51 : decode cX3_take 51 = .ok (.invokevirtual 98, 3) := by decide +kernel
theorem dX3_take_54 : decode cX3_take 54 = .ok (.ireturn, 1) := by decide +kernel
theorem dX3_joined_0 : decode cX3_joined 0 = .ok (.iload_n 0, 1) := by decide +kernel
theorem dX3_joined_1 : decode cX3_joined 1 = .ok (.tableswitch 41 0 2 #[27, 29, 31], 27) := by decide +kernel
theorem dX3_joined_28 : decode cX3_joined 28 = .ok (.iload_n 1, 1) := by decide +kernel
theorem dX3_joined_29 : decode cX3_joined 29 = .ok (.ireturn, 1) := by decide +kernel
theorem dX3_joined_30 : decode cX3_joined 30 = .ok (.iload_n 2, 1) := by decide +kernel
theorem dX3_joined_31 : decode cX3_joined 31 = .ok (.ireturn, 1) := by decide +kernel
theorem dX3_joined_32 : decode cX3_joined 32 = .ok (.sipush 999, 3) := by decide +kernel
theorem dX3_joined_35 : decode cX3_joined 35 = .ok (.iload_n 1, 1) := by decide +kernel
theorem dX3_joined_36 : decode cX3_joined 36 = .ok (.iload_n 2, 1) := by decide +kernel
theorem dX3_joined_37 : decode cX3_joined 37 = .ok (.iadd, 1) := by decide +kernel
theorem dX3_joined_38 : decode cX3_joined 38 = .ok (.invokestatic 86, 3) := by decide +kernel
theorem dX3_joined_41 : decode cX3_joined 41 = .ok (.ireturn, 1) := by decide +kernel
theorem dX3_joined_42 : decode cX3_joined 42 = .ok (.iload_n 1, 1) := by decide +kernel
theorem dX3_joined_43 : decode cX3_joined 43 = .ok (.iload_n 2, 1) := by decide +kernel
theorem dX3_joined_44 : decode cX3_joined 44 = .ok (.invokestatic 86, 3) := by decide +kernel
theorem dX3_joined_47 : decode cX3_joined 47 = .ok (.ireturn, 1) := by decide +kernel
theorem dX3_merge_0 : decode cX3_merge 0 = .ok (.aload_n 0, 1) := by decide +kernel
theorem dX3_merge_1 : decode cX3_merge 1 = .ok (.iconst 0, 1) := by decide +kernel
theorem dX3_merge_2 : decode cX3_merge 2 = .ok (.putfield 40, 3) := by decide +kernel
theorem dX3_merge_5 : decode cX3_merge 5 = .ok (.iload_n 1, 1) := by decide +kernel
theorem dX3_merge_6 : decode cX3_merge 6 = .ok (.invokestatic 94, 3) := by decide +kernel
theorem dX3_merge_9 : decode cX3_merge 9 = .ok (.ifCond .eq 12, 3) := by decide +kernel
theorem dX3_merge_12 : decode cX3_merge 12 = .ok (.iload_n 2, 1) := by decide +kernel
theorem dX3_merge_13 : decode cX3_merge 13 = .ok (.iconst 0, 1) := by decide +kernel
theorem dX3_merge_14 : decode cX3_merge 14 = .ok (.iconst 3, 1) := by decide +kernel
theorem dX3_merge_15 : decode cX3_merge 15 = .ok (.invokestatic 44, 3) := by decide +kernel
theorem dX3_merge_18 : decode cX3_merge 18 = .ok (.ifCond .ne 9, 3) := by decide +kernel
theorem dX3_merge_21 : decode cX3_merge 21 = .ok (.aload_n 0, 1) := by decide +kernel
theorem dX3_merge_22 : decode cX3_merge 22 = .ok (.iconst 1, 1) := by decide +kernel
theorem dX3_merge_23 : decode cX3_merge 23 = .ok (.invokevirtual 98, 3) := by decide +kernel
theorem dX3_merge_26 : decode cX3_merge 26 = .ok (.ireturn, 1) := by decide +kernel
theorem dX3_merge_27 : decode cX3_merge 27 = .ok (.aload_n 0, 1) := by decide +kernel
theorem dX3_merge_28 : decode cX3_merge 28 = .ok (.invokevirtual 111, 3) := by decide +kernel
theorem dX3_merge_31 : decode cX3_merge 31 = .ok (.istore_n 3, 1) := by decide +kernel
theorem dX3_merge_32 : decode cX3_merge 32 = .ok (.aload_n 0, 1) := by decide +kernel
theorem dX3_merge_33 : decode cX3_merge 33 = .ok (.getfield 9, 3) := by decide +kernel
theorem dX3_merge_36 : decode cX3_merge 36 = .ok (.iconst 0, 1) := by decide +kernel
theorem dX3_merge_37 : decode cX3_merge 37 = .ok (.iaload, 1) := by decide +kernel
theorem dX3_merge_38 : decode cX3_merge 38 = .ok (.aload_n 0, 1) := by decide +kernel
theorem dX3_merge_39 : decode cX3_merge 39 = .ok (.getfield 9, 3) := by decide +kernel
theorem dX3_merge_42 : decode cX3_merge 42 = .ok (.iconst 1, 1) := by decide +kernel
theorem dX3_merge_43 : decode cX3_merge 43 = .ok (.iaload, 1) := by decide +kernel
theorem dX3_merge_44 : decode cX3_merge 44 = .ok (.iadd, 1) := by decide +kernel
theorem dX3_merge_45 : decode cX3_merge 45 = .ok (.iload_n 3, 1) := by decide +kernel
theorem dX3_merge_46 : decode cX3_merge 46 = .ok (.isub, 1) := by decide +kernel
theorem dX3_merge_47 : decode cX3_merge 47 = .ok (.bipush 24, 2) := by decide +kernel
theorem dX3_merge_49 : decode cX3_merge 49 = .ok (.if_icmp .le 9, 3) := by decide +kernel
theorem dX3_merge_52 : decode cX3_merge 52 = .ok (.aload_n 0, 1) := by decide +kernel
theorem dX3_merge_53 : decode cX3_merge 53 = .ok (.iconst 2, 1) := by decide +kernel
theorem dX3_merge_54 : decode cX3_merge 54 = .ok (.invokevirtual 98, 3) := by decide +kernel
theorem dX3_merge_57 : decode cX3_merge 57 = .ok (.ireturn, 1) := by decide +kernel
theorem dX3_merge_58 : decode cX3_merge 58 = .ok (.iconst 1, 1) := by decide +kernel
theorem dX3_merge_59 : decode cX3_merge 59 = .ok (.iload_n 1, 1) := by decide +kernel
theorem dX3_merge_60 : decode cX3_merge 60 = .ok (.isub, 1) := by decide +kernel
theorem dX3_merge_61 : decode cX3_merge 61 = .ok (.istore 4, 2) := by decide +kernel
theorem dX3_merge_63 : decode cX3_merge 63 = .ok (.bipush 24, 2) := by decide +kernel
theorem dX3_merge_65 : decode cX3_merge 65 = .ok (.iload_n 1, 1) := by decide +kernel
theorem dX3_merge_66 : decode cX3_merge 66 = .ok (.imul, 1) := by decide +kernel
theorem dX3_merge_67 : decode cX3_merge 67 = .ok (.istore 5, 2) := by decide +kernel
theorem dX3_merge_69 : decode cX3_merge 69 = .ok (.iload 5, 2) := by decide +kernel
theorem dX3_merge_71 : decode cX3_merge 71 = .ok (.bipush 24, 2) := by decide +kernel
theorem dX3_merge_73 : decode cX3_merge 73 = .ok (.iload_n 1, 1) := by decide +kernel
theorem dX3_merge_74 : decode cX3_merge 74 = .ok (.imul, 1) := by decide +kernel
theorem dX3_merge_75 : decode cX3_merge 75 = .ok (.aload_n 0, 1) := by decide +kernel
theorem dX3_merge_76 : decode cX3_merge 76 = .ok (.getfield 9, 3) := by decide +kernel
theorem dX3_merge_79 : decode cX3_merge 79 = .ok (.iload_n 1, 1) := by decide +kernel
theorem dX3_merge_80 : decode cX3_merge 80 = .ok (.iaload, 1) := by decide +kernel
theorem dX3_merge_81 : decode cX3_merge 81 = .ok (.iadd, 1) := by decide +kernel
theorem dX3_merge_82 : decode cX3_merge 82 = .ok (.if_icmp .ge 94, 3) := by decide +kernel
theorem dX3_merge_85 : decode cX3_merge 85 = .ok (.aload_n 0, 1) := by decide +kernel
theorem dX3_merge_86 : decode cX3_merge 86 = .ok (.iload 4, 2) := by decide +kernel
theorem dX3_merge_88 : decode cX3_merge 88 = .ok (.aload_n 0, 1) := by decide +kernel
theorem dX3_merge_89 : decode cX3_merge 89 = .ok (.getfield 13, 3) := by decide +kernel
theorem dX3_merge_92 : decode cX3_merge 92 = .ok (.iload 5, 2) := by decide +kernel
theorem dX3_merge_94 : decode cX3_merge 94 = .ok (.iaload, 1) := by decide +kernel
theorem dX3_merge_95 : decode cX3_merge 95 = .ok (.invokevirtual 65, 3) := by decide +kernel
theorem dX3_merge_98 : decode cX3_merge 98 = .ok (.ifCond .ne 26, 3) := by decide +kernel
theorem dX3_merge_101 : decode cX3_merge 101 = .ok (.aload_n 0, 1) := by decide +kernel
theorem dX3_merge_102 : decode cX3_merge 102 = .ok (.iload 4, 2) := by decide +kernel
theorem dX3_merge_104 : decode cX3_merge 104 = .ok (.aload_n 0, 1) := by decide +kernel
theorem dX3_merge_105 : decode cX3_merge 105 = .ok (.getfield 13, 3) := by decide +kernel
theorem dX3_merge_108 : decode cX3_merge 108 = .ok (.iload 5, 2) := by decide +kernel
theorem dX3_merge_110 : decode cX3_merge 110 = .ok (.iaload, 1) := by decide +kernel
theorem dX3_merge_111 : decode cX3_merge 111 = .ok (.aload_n 0, 1) := by decide +kernel
theorem dX3_merge_112 : decode cX3_merge 112 = .ok (.getfield 16, 3) := by decide +kernel
theorem dX3_merge_115 : decode cX3_merge 115 = .ok (.iload 5, 2) := by decide +kernel
theorem dX3_merge_117 : decode cX3_merge 117 = .ok (.iaload, 1) := by decide +kernel
theorem dX3_merge_118 : decode cX3_merge 118 = .ok (.invokevirtual 104, 3) := by decide +kernel
theorem dX3_merge_121 : decode cX3_merge 121 = .ok (.goto 49, 3) := by decide +kernel
theorem dX3_merge_124 : decode cX3_merge 124 = .ok (.bipush 24, 2) := by decide +kernel
theorem dX3_merge_126 : decode cX3_merge 126 = .ok (.iload 4, 2) := by decide +kernel
theorem dX3_merge_128 : decode cX3_merge 128 = .ok (.imul, 1) := by decide +kernel
theorem dX3_merge_129 : decode cX3_merge 129 = .ok (.aload_n 0, 1) := by decide +kernel
theorem dX3_merge_130 : decode cX3_merge 130 = .ok (.iload 4, 2) := by decide +kernel
theorem dX3_merge_132 : decode cX3_merge 132 = .ok (.aload_n 0, 1) := by decide +kernel
theorem dX3_merge_133 : decode cX3_merge 133 = .ok (.getfield 13, 3) := by decide +kernel
theorem dX3_merge_136 : decode cX3_merge 136 = .ok (.iload 5, 2) := by decide +kernel
theorem dX3_merge_138 : decode cX3_merge 138 = .ok (.iaload, 1) := by decide +kernel
theorem dX3_merge_139 : decode cX3_merge 139 = .ok (.invokevirtual 55, 3) := by decide +kernel
theorem dX3_merge_142 : decode cX3_merge 142 = .ok (.iadd, 1) := by decide +kernel
theorem dX3_merge_143 : decode cX3_merge 143 = .ok (.istore 6, 2) := by decide +kernel
theorem dX3_merge_145 : decode cX3_merge 145 = .ok (.aload_n 0, 1) := by decide +kernel
theorem dX3_merge_146 : decode cX3_merge 146 = .ok (.getfield 16, 3) := by decide +kernel
theorem dX3_merge_149 : decode cX3_merge 149 = .ok (.iload 6, 2) := by decide +kernel
theorem dX3_merge_151 : decode cX3_merge 151 = .ok (.iload_n 2, 1) := by decide +kernel
theorem dX3_merge_152 : decode cX3_merge 152 = .ok (.aload_n 0, 1) := by decide +kernel
theorem dX3_merge_153 : decode cX3_merge 153 = .ok (.getfield 16, 3) := by decide +kernel
theorem dX3_merge_156 : decode cX3_merge 156 = .ok (.iload 5, 2) := by decide +kernel
theorem dX3_merge_158 : decode cX3_merge 158 = .ok (.iaload, 1) := by decide +kernel
theorem dX3_merge_159 : decode cX3_merge 159 = .ok (.aload_n 0, 1) := by decide +kernel
theorem dX3_merge_160 : decode cX3_merge 160 = .ok (.getfield 16, 3) := by decide +kernel
theorem dX3_merge_163 : decode cX3_merge 163 = .ok (.iload 6, 2) := by decide +kernel
theorem dX3_merge_165 : decode cX3_merge 165 = .ok (.iaload, 1) := by decide +kernel
theorem dX3_merge_166 : decode cX3_merge 166 = .ok (.invokestatic 115, 3) := by decide +kernel
theorem dX3_merge_169 : decode cX3_merge 169 = .ok (.iastore, 1) := by decide +kernel
theorem dX3_merge_170 : decode cX3_merge 170 = .ok (.iinc 5 1, 3) := by decide +kernel
theorem dX3_merge_173 : decode cX3_merge 173 = .ok (.goto (-104), 3) := by decide +kernel
theorem dX3_merge_176 : decode cX3_merge 176 = .ok (.aload_n 0, 1) := by decide +kernel
theorem dX3_merge_177 : decode cX3_merge 177 = .ok (.getfield 9, 3) := by decide +kernel
theorem dX3_merge_180 : decode cX3_merge 180 = .ok (.iload_n 1, 1) := by decide +kernel
theorem dX3_merge_181 : decode cX3_merge 181 = .ok (.iconst 0, 1) := by decide +kernel
theorem dX3_merge_182 : decode cX3_merge 182 = .ok (.iastore, 1) := by decide +kernel
theorem dX3_merge_183 : decode cX3_merge 183 = .ok (.iload_n 3, 1) := by decide +kernel
theorem dX3_merge_184 : decode cX3_merge 184 = .ok (.ireturn, 1) := by decide +kernel
theorem dX3_cut_0 : decode cX3_cut 0 = .ok (.aload_n 0, 1) := by decide +kernel
theorem dX3_cut_1 : decode cX3_cut 1 = .ok (.iconst 0, 1) := by decide +kernel
theorem dX3_cut_2 : decode cX3_cut 2 = .ok (.putfield 40, 3) := by decide +kernel
theorem dX3_cut_5 : decode cX3_cut 5 = .ok (.iload_n 1, 1) := by decide +kernel
theorem dX3_cut_6 : decode cX3_cut 6 = .ok (.invokestatic 94, 3) := by decide +kernel
theorem dX3_cut_9 : decode cX3_cut 9 = .ok (.ifCond .ne 9, 3) := by decide +kernel
theorem dX3_cut_12 : decode cX3_cut 12 = .ok (.aload_n 0, 1) := by decide +kernel
theorem dX3_cut_13 : decode cX3_cut 13 = .ok (.iconst 1, 1) := by decide +kernel
theorem dX3_cut_14 : decode cX3_cut 14 = .ok (.invokevirtual 98, 3) := by decide +kernel
theorem dX3_cut_17 : decode cX3_cut 17 = .ok (.ireturn, 1) := by decide +kernel
theorem dX3_cut_18 : decode cX3_cut 18 = .ok (.iload_n 2, 1) := by decide +kernel
theorem dX3_cut_19 : decode cX3_cut 19 = .ok (.invokestatic 101, 3) := by decide +kernel
theorem dX3_cut_22 : decode cX3_cut 22 = .ok (.ifCond .ne 9, 3) := by decide +kernel
theorem dX3_cut_25 : decode cX3_cut 25 = .ok (.aload_n 0, 1) := by decide +kernel
theorem dX3_cut_26 : decode cX3_cut 26 = .ok (.iconst 2, 1) := by decide +kernel
theorem dX3_cut_27 : decode cX3_cut 27 = .ok (.invokevirtual 98, 3) := by decide +kernel
theorem dX3_cut_30 : decode cX3_cut 30 = .ok (.ireturn, 1) := by decide +kernel
theorem dX3_cut_31 : decode cX3_cut 31 = .ok (.aload_n 0, 1) := by decide +kernel
theorem dX3_cut_32 : decode cX3_cut 32 = .ok (.getfield 9, 3) := by decide +kernel
theorem dX3_cut_35 : decode cX3_cut 35 = .ok (.iconst 1, 1) := by decide +kernel
theorem dX3_cut_36 : decode cX3_cut 36 = .ok (.iload_n 1, 1) := by decide +kernel
theorem dX3_cut_37 : decode cX3_cut 37 = .ok (.isub, 1) := by decide +kernel
theorem dX3_cut_38 : decode cX3_cut 38 = .ok (.iaload, 1) := by decide +kernel
theorem dX3_cut_39 : decode cX3_cut 39 = .ok (.ifCond .le 9, 3) := by decide +kernel
theorem dX3_cut_42 : decode cX3_cut 42 = .ok (.aload_n 0, 1) := by decide +kernel
theorem dX3_cut_43 : decode cX3_cut 43 = .ok (.iconst 3, 1) := by decide +kernel
theorem dX3_cut_44 : decode cX3_cut 44 = .ok (.invokevirtual 98, 3) := by decide +kernel
theorem dX3_cut_47 : decode cX3_cut 47 = .ok (.ireturn, 1) := by decide +kernel
theorem dX3_cut_48 : decode cX3_cut 48 = .ok (.aload_n 0, 1) := by decide +kernel
theorem dX3_cut_49 : decode cX3_cut 49 = .ok (.iload_n 1, 1) := by decide +kernel
theorem dX3_cut_50 : decode cX3_cut 50 = .ok (.iload_n 2, 1) := by decide +kernel
theorem dX3_cut_51 : decode cX3_cut 51 = .ok (.invokevirtual 55, 3) := by decide +kernel
theorem dX3_cut_54 : decode cX3_cut 54 = .ok (.istore_n 3, 1) := by decide +kernel
theorem dX3_cut_55 : decode cX3_cut 55 = .ok (.aload_n 0, 1) := by decide +kernel
theorem dX3_cut_56 : decode cX3_cut 56 = .ok (.getfield 9, 3) := by decide +kernel
theorem dX3_cut_59 : decode cX3_cut 59 = .ok (.iload_n 1, 1) := by decide +kernel
theorem dX3_cut_60 : decode cX3_cut 60 = .ok (.iaload, 1) := by decide +kernel
theorem dX3_cut_61 : decode cX3_cut 61 = .ok (.iload_n 3, 1) := by decide +kernel
theorem dX3_cut_62 : decode cX3_cut 62 = .ok (.isub, 1) := by decide +kernel
theorem dX3_cut_63 : decode cX3_cut 63 = .ok (.istore 4, 2) := by decide +kernel
theorem dX3_cut_65 : decode cX3_cut 65 = .ok (.aload_n 0, 1) := by decide +kernel
theorem dX3_cut_66 : decode cX3_cut 66 = .ok (.getfield 13, 3) := by decide +kernel
theorem dX3_cut_69 : decode cX3_cut 69 = .ok (.bipush 24, 2) := by decide +kernel
theorem dX3_cut_71 : decode cX3_cut 71 = .ok (.iload_n 1, 1) := by decide +kernel
theorem dX3_cut_72 : decode cX3_cut 72 = .ok (.imul, 1) := by decide +kernel
theorem dX3_cut_73 : decode cX3_cut 73 = .ok (.iload_n 3, 1) := by decide +kernel
theorem dX3_cut_74 : decode cX3_cut 74 = .ok (.iadd, 1) := by decide +kernel
theorem dX3_cut_75 : decode cX3_cut 75 = .ok (.aload_n 0, 1) := by decide +kernel
theorem dX3_cut_76 : decode cX3_cut 76 = .ok (.getfield 13, 3) := by decide +kernel
theorem dX3_cut_79 : decode cX3_cut 79 = .ok (.bipush 24, 2) := by decide +kernel
theorem dX3_cut_81 : decode cX3_cut 81 = .ok (.iconst 1, 1) := by decide +kernel
theorem dX3_cut_82 : decode cX3_cut 82 = .ok (.iload_n 1, 1) := by decide +kernel
theorem dX3_cut_83 : decode cX3_cut 83 = .ok (.isub, 1) := by decide +kernel
theorem dX3_cut_84 : decode cX3_cut 84 = .ok (.imul, 1) := by decide +kernel
theorem dX3_cut_85 : decode cX3_cut 85 = .ok (.iload 4, 2) := by decide +kernel
theorem dX3_cut_87 : decode cX3_cut 87 = .ok (.invokestatic 59, 3) := by decide +kernel
theorem dX3_cut_90 : decode cX3_cut 90 = .ok (.aload_n 0, 1) := by decide +kernel
theorem dX3_cut_91 : decode cX3_cut 91 = .ok (.getfield 16, 3) := by decide +kernel
theorem dX3_cut_94 : decode cX3_cut 94 = .ok (.bipush 24, 2) := by decide +kernel
theorem dX3_cut_96 : decode cX3_cut 96 = .ok (.iload_n 1, 1) := by decide +kernel
theorem dX3_cut_97 : decode cX3_cut 97 = .ok (.imul, 1) := by decide +kernel
theorem dX3_cut_98 : decode cX3_cut 98 = .ok (.iload_n 3, 1) := by decide +kernel
theorem dX3_cut_99 : decode cX3_cut 99 = .ok (.iadd, 1) := by decide +kernel
theorem dX3_cut_100 : decode cX3_cut 100 = .ok (.aload_n 0, 1) := by decide +kernel
theorem dX3_cut_101 : decode cX3_cut 101 = .ok (.getfield 16, 3) := by decide +kernel
theorem dX3_cut_104 : decode cX3_cut 104 = .ok (.bipush 24, 2) := by decide +kernel
theorem dX3_cut_106 : decode cX3_cut 106 = .ok (.iconst 1, 1) := by decide +kernel
theorem dX3_cut_107 : decode cX3_cut 107 = .ok (.iload_n 1, 1) := by decide +kernel
theorem dX3_cut_108 : decode cX3_cut 108 = .ok (.isub, 1) := by decide +kernel
theorem dX3_cut_109 : decode cX3_cut 109 = .ok (.imul, 1) := by decide +kernel
theorem dX3_cut_110 : decode cX3_cut 110 = .ok (.iload 4, 2) := by decide +kernel
theorem dX3_cut_112 : decode cX3_cut 112 = .ok (.invokestatic 59, 3) := by decide +kernel
theorem dX3_cut_115 : decode cX3_cut 115 = .ok (.aload_n 0, 1) := by decide +kernel
theorem dX3_cut_116 : decode cX3_cut 116 = .ok (.getfield 9, 3) := by decide +kernel
theorem dX3_cut_119 : decode cX3_cut 119 = .ok (.iload_n 1, 1) := by decide +kernel
theorem dX3_cut_120 : decode cX3_cut 120 = .ok (.iload_n 3, 1) := by decide +kernel
theorem dX3_cut_121 : decode cX3_cut 121 = .ok (.iastore, 1) := by decide +kernel
theorem dX3_cut_122 : decode cX3_cut 122 = .ok (.aload_n 0, 1) := by decide +kernel
theorem dX3_cut_123 : decode cX3_cut 123 = .ok (.getfield 9, 3) := by decide +kernel
theorem dX3_cut_126 : decode cX3_cut 126 = .ok (.iconst 1, 1) := by decide +kernel
theorem dX3_cut_127 : decode cX3_cut 127 = .ok (.iload_n 1, 1) := by decide +kernel
theorem dX3_cut_128 : decode cX3_cut 128 = .ok (.isub, 1) := by decide +kernel
theorem dX3_cut_129 : decode cX3_cut 129 = .ok (.iload 4, 2) := by decide +kernel
theorem dX3_cut_131 : decode cX3_cut 131 = .ok (.iastore, 1) := by decide +kernel
theorem dX3_cut_132 : decode cX3_cut 132 = .ok (.iload 4, 2) := by decide +kernel
theorem dX3_cut_134 : decode cX3_cut 134 = .ok (.ireturn, 1) := by decide +kernel
theorem dX3_turn_0 : decode cX3_turn 0 = .ok (.aload_n 0, 1) := by decide +kernel
theorem dX3_turn_1 : decode cX3_turn 1 = .ok (.iconst 0, 1) := by decide +kernel
theorem dX3_turn_2 : decode cX3_turn 2 = .ok (.putfield 40, 3) := by decide +kernel
theorem dX3_turn_5 : decode cX3_turn 5 = .ok (.iload_n 1, 1) := by decide +kernel
theorem dX3_turn_6 : decode cX3_turn 6 = .ok (.invokestatic 94, 3) := by decide +kernel
theorem dX3_turn_9 : decode cX3_turn 9 = .ok (.ifCond .ne 9, 3) := by decide +kernel
theorem dX3_turn_12 : decode cX3_turn 12 = .ok (.aload_n 0, 1) := by decide +kernel
theorem dX3_turn_13 : decode cX3_turn 13 = .ok (.iconst 1, 1) := by decide +kernel
theorem dX3_turn_14 : decode cX3_turn 14 = .ok (.invokevirtual 98, 3) := by decide +kernel
theorem dX3_turn_17 : decode cX3_turn 17 = .ok (.ireturn, 1) := by decide +kernel
theorem dX3_turn_18 : decode cX3_turn 18 = .ok (.iload_n 2, 1) := by decide +kernel
theorem dX3_turn_19 : decode cX3_turn 19 = .ok (.invokestatic 101, 3) := by decide +kernel
theorem dX3_turn_22 : decode cX3_turn 22 = .ok (.ifCond .ne 9, 3) := by decide +kernel
theorem dX3_turn_25 : decode cX3_turn 25 = .ok (.aload_n 0, 1) := by decide +kernel
theorem dX3_turn_26 : decode cX3_turn 26 = .ok (.iconst 2, 1) := by decide +kernel
theorem dX3_turn_27 : decode cX3_turn 27 = .ok (.invokevirtual 98, 3) := by decide +kernel
theorem dX3_turn_30 : decode cX3_turn 30 = .ok (.ireturn, 1) := by decide +kernel
theorem dX3_turn_31 : decode cX3_turn 31 = .ok (.aload_n 0, 1) := by decide +kernel
theorem dX3_turn_32 : decode cX3_turn 32 = .ok (.getfield 9, 3) := by decide +kernel
theorem dX3_turn_35 : decode cX3_turn 35 = .ok (.iload_n 1, 1) := by decide +kernel
theorem dX3_turn_36 : decode cX3_turn 36 = .ok (.iaload, 1) := by decide +kernel
theorem dX3_turn_37 : decode cX3_turn 37 = .ok (.ifCond .ne 9, 3) := by decide +kernel
theorem dX3_turn_40 : decode cX3_turn 40 = .ok (.aload_n 0, 1) := by decide +kernel
theorem dX3_turn_41 : decode cX3_turn 41 = .ok (.iconst 3, 1) := by decide +kernel
theorem dX3_turn_42 : decode cX3_turn 42 = .ok (.invokevirtual 98, 3) := by decide +kernel
theorem dX3_turn_45 : decode cX3_turn 45 = .ok (.ireturn, 1) := by decide +kernel
theorem dX3_turn_46 : decode cX3_turn 46 = .ok (.aload_n 0, 1) := by decide +kernel
theorem dX3_turn_47 : decode cX3_turn 47 = .ok (.getfield 9, 3) := by decide +kernel
theorem dX3_turn_50 : decode cX3_turn 50 = .ok (.iload_n 1, 1) := by decide +kernel
theorem dX3_turn_51 : decode cX3_turn 51 = .ok (.iaload, 1) := by decide +kernel
theorem dX3_turn_52 : decode cX3_turn 52 = .ok (.istore_n 3, 1) := by decide +kernel
theorem dX3_turn_53 : decode cX3_turn 53 = .ok (.iload_n 3, 1) := by decide +kernel
theorem dX3_turn_54 : decode cX3_turn 54 = .ok (.newarray .int, 2) := by decide +kernel
theorem dX3_turn_56 : decode cX3_turn 56 = .ok (.astore 4, 2) := by decide +kernel
theorem dX3_turn_58 : decode cX3_turn 58 = .ok (.iload_n 3, 1) := by decide +kernel
theorem dX3_turn_59 : decode cX3_turn 59 = .ok (.newarray .int, 2) := by decide +kernel
theorem dX3_turn_61 : decode cX3_turn 61 = .ok (.astore 5, 2) := by decide +kernel
theorem dX3_turn_63 : decode cX3_turn 63 = .ok (.aload_n 0, 1) := by decide +kernel
theorem dX3_turn_64 : decode cX3_turn 64 = .ok (.getfield 13, 3) := by decide +kernel
theorem dX3_turn_67 : decode cX3_turn 67 = .ok (.bipush 24, 2) := by decide +kernel
theorem dX3_turn_69 : decode cX3_turn 69 = .ok (.iload_n 1, 1) := by decide +kernel
theorem dX3_turn_70 : decode cX3_turn 70 = .ok (.imul, 1) := by decide +kernel
theorem dX3_turn_71 : decode cX3_turn 71 = .ok (.aload 4, 2) := by decide +kernel
theorem dX3_turn_73 : decode cX3_turn 73 = .ok (.iconst 0, 1) := by decide +kernel
theorem dX3_turn_74 : decode cX3_turn 74 = .ok (.iload_n 3, 1) := by decide +kernel
theorem dX3_turn_75 : decode cX3_turn 75 = .ok (.invokestatic 59, 3) := by decide +kernel
theorem dX3_turn_78 : decode cX3_turn 78 = .ok (.aload_n 0, 1) := by decide +kernel
theorem dX3_turn_79 : decode cX3_turn 79 = .ok (.getfield 16, 3) := by decide +kernel
theorem dX3_turn_82 : decode cX3_turn 82 = .ok (.bipush 24, 2) := by decide +kernel
theorem dX3_turn_84 : decode cX3_turn 84 = .ok (.iload_n 1, 1) := by decide +kernel
theorem dX3_turn_85 : decode cX3_turn 85 = .ok (.imul, 1) := by decide +kernel
theorem dX3_turn_86 : decode cX3_turn 86 = .ok (.aload 5, 2) := by decide +kernel
theorem dX3_turn_88 : decode cX3_turn 88 = .ok (.iconst 0, 1) := by decide +kernel
theorem dX3_turn_89 : decode cX3_turn 89 = .ok (.iload_n 3, 1) := by decide +kernel
theorem dX3_turn_90 : decode cX3_turn 90 = .ok (.invokestatic 59, 3) := by decide +kernel
theorem dX3_turn_93 : decode cX3_turn 93 = .ok (.aload_n 0, 1) := by decide +kernel
theorem dX3_turn_94 : decode cX3_turn 94 = .ok (.getfield 9, 3) := by decide +kernel
theorem dX3_turn_97 : decode cX3_turn 97 = .ok (.iload_n 1, 1) := by decide +kernel
theorem dX3_turn_98 : decode cX3_turn 98 = .ok (.iconst 0, 1) := by decide +kernel
theorem dX3_turn_99 : decode cX3_turn 99 = .ok (.iastore, 1) := by decide +kernel
theorem dX3_turn_100 : decode cX3_turn 100 = .ok (.iconst 0, 1) := by decide +kernel
theorem dX3_turn_101 : decode cX3_turn 101 = .ok (.istore 6, 2) := by decide +kernel
theorem dX3_turn_103 : decode cX3_turn 103 = .ok (.iload 6, 2) := by decide +kernel
theorem dX3_turn_105 : decode cX3_turn 105 = .ok (.iload_n 3, 1) := by decide +kernel
theorem dX3_turn_106 : decode cX3_turn 106 = .ok (.if_icmp .ge 26, 3) := by decide +kernel
theorem dX3_turn_109 : decode cX3_turn 109 = .ok (.aload_n 0, 1) := by decide +kernel
theorem dX3_turn_110 : decode cX3_turn 110 = .ok (.iload_n 1, 1) := by decide +kernel
theorem dX3_turn_111 : decode cX3_turn 111 = .ok (.aload 4, 2) := by decide +kernel
theorem dX3_turn_113 : decode cX3_turn 113 = .ok (.iload 6, 2) := by decide +kernel
theorem dX3_turn_115 : decode cX3_turn 115 = .ok (.iaload, 1) := by decide +kernel
theorem dX3_turn_116 : decode cX3_turn 116 = .ok (.iload_n 2, 1) := by decide +kernel
theorem dX3_turn_117 : decode cX3_turn 117 = .ok (.ixor, 1) := by decide +kernel
theorem dX3_turn_118 : decode cX3_turn 118 = .ok (.aload 5, 2) := by decide +kernel
theorem dX3_turn_120 : decode cX3_turn 120 = .ok (.iload 6, 2) := by decide +kernel
theorem dX3_turn_122 : decode cX3_turn 122 = .ok (.iaload, 1) := by decide +kernel
theorem dX3_turn_123 : decode cX3_turn 123 = .ok (.invokevirtual 104, 3) := by decide +kernel
theorem dX3_turn_126 : decode cX3_turn 126 = .ok (.iinc 6 1, 3) := by decide +kernel
theorem dX3_turn_129 : decode cX3_turn 129 = .ok (.goto (-26), 3) := by decide +kernel
theorem dX3_turn_132 : decode cX3_turn 132 = .ok (.aload_n 0, 1) := by decide +kernel
theorem dX3_turn_133 : decode cX3_turn 133 = .ok (.getfield 13, 3) := by decide +kernel
theorem dX3_turn_136 : decode cX3_turn 136 = .ok (.bipush 24, 2) := by decide +kernel
theorem dX3_turn_138 : decode cX3_turn 138 = .ok (.iload_n 1, 1) := by decide +kernel
theorem dX3_turn_139 : decode cX3_turn 139 = .ok (.imul, 1) := by decide +kernel
theorem dX3_turn_140 : decode cX3_turn 140 = .ok (.iaload, 1) := by decide +kernel
theorem dX3_turn_141 : decode cX3_turn 141 = .ok (.ireturn, 1) := by decide +kernel
theorem dX3_miles_0 : decode cX3_miles 0 = .ok (.aload_n 0, 1) := by decide +kernel
theorem dX3_miles_1 : decode cX3_miles 1 = .ok (.iconst 0, 1) := by decide +kernel
theorem dX3_miles_2 : decode cX3_miles 2 = .ok (.putfield 40, 3) := by decide +kernel
theorem dX3_miles_5 : decode cX3_miles 5 = .ok (.iload_n 1, 1) := by decide +kernel
theorem dX3_miles_6 : decode cX3_miles 6 = .ok (.invokestatic 94, 3) := by decide +kernel
theorem dX3_miles_9 : decode cX3_miles 9 = .ok (.ifCond .ne 9, 3) := by decide +kernel
theorem dX3_miles_12 : decode cX3_miles 12 = .ok (.aload_n 0, 1) := by decide +kernel
theorem dX3_miles_13 : decode cX3_miles 13 = .ok (.iconst 1, 1) := by decide +kernel
theorem dX3_miles_14 : decode cX3_miles 14 = .ok (.invokevirtual 98, 3) := by decide +kernel
theorem dX3_miles_17 : decode cX3_miles 17 = .ok (.ireturn, 1) := by decide +kernel
theorem dX3_miles_18 : decode cX3_miles 18 = .ok (.iload_n 2, 1) := by decide +kernel
theorem dX3_miles_19 : decode cX3_miles 19 = .ok (.invokestatic 101, 3) := by decide +kernel
theorem dX3_miles_22 : decode cX3_miles 22 = .ok (.ifCond .ne 9, 3) := by decide +kernel
theorem dX3_miles_25 : decode cX3_miles 25 = .ok (.aload_n 0, 1) := by decide +kernel
theorem dX3_miles_26 : decode cX3_miles 26 = .ok (.iconst 2, 1) := by decide +kernel
theorem dX3_miles_27 : decode cX3_miles 27 = .ok (.invokevirtual 98, 3) := by decide +kernel
theorem dX3_miles_30 : decode cX3_miles 30 = .ok (.ireturn, 1) := by decide +kernel
theorem dX3_miles_31 : decode cX3_miles 31 = .ok (.aload_n 0, 1) := by decide +kernel
theorem dX3_miles_32 : decode cX3_miles 32 = .ok (.iload_n 1, 1) := by decide +kernel
theorem dX3_miles_33 : decode cX3_miles 33 = .ok (.iload_n 2, 1) := by decide +kernel
theorem dX3_miles_34 : decode cX3_miles 34 = .ok (.invokevirtual 65, 3) := by decide +kernel
theorem dX3_miles_37 : decode cX3_miles 37 = .ok (.ifCond .eq 22, 3) := by decide +kernel
theorem dX3_miles_40 : decode cX3_miles 40 = .ok (.aload_n 0, 1) := by decide +kernel
theorem dX3_miles_41 : decode cX3_miles 41 = .ok (.getfield 16, 3) := by decide +kernel
theorem dX3_miles_44 : decode cX3_miles 44 = .ok (.bipush 24, 2) := by decide +kernel
theorem dX3_miles_46 : decode cX3_miles 46 = .ok (.iload_n 1, 1) := by decide +kernel
theorem dX3_miles_47 : decode cX3_miles 47 = .ok (.imul, 1) := by decide +kernel
theorem dX3_miles_48 : decode cX3_miles 48 = .ok (.aload_n 0, 1) := by decide +kernel
theorem dX3_miles_49 : decode cX3_miles 49 = .ok (.iload_n 1, 1) := by decide +kernel
theorem dX3_miles_50 : decode cX3_miles 50 = .ok (.iload_n 2, 1) := by decide +kernel
theorem dX3_miles_51 : decode cX3_miles 51 = .ok (.invokevirtual 55, 3) := by decide +kernel
theorem dX3_miles_54 : decode cX3_miles 54 = .ok (.iadd, 1) := by decide +kernel
theorem dX3_miles_55 : decode cX3_miles 55 = .ok (.iaload, 1) := by decide +kernel
theorem dX3_miles_56 : decode cX3_miles 56 = .ok (.goto 4, 3) := by decide +kernel
theorem dX3_miles_59 : decode cX3_miles 59 = .ok (.iconst (-1), 1) := by decide +kernel
theorem dX3_miles_60 : decode cX3_miles 60 = .ok (.ireturn, 1) := by decide +kernel
theorem dX3_counted_0 : decode cX3_counted 0 = .ok (.aload_n 0, 1) := by decide +kernel
theorem dX3_counted_1 : decode cX3_counted 1 = .ok (.iload_n 1, 1) := by decide +kernel
theorem dX3_counted_2 : decode cX3_counted 2 = .ok (.invokevirtual 118, 3) := by decide +kernel
theorem dX3_counted_5 : decode cX3_counted 5 = .ok (.iconst 0, 1) := by decide +kernel
theorem dX3_counted_6 : decode cX3_counted 6 = .ok (.istore_n 3, 1) := by decide +kernel
theorem dX3_counted_7 : decode cX3_counted 7 = .ok (.iload_n 2, 1) := by decide +kernel
theorem dX3_counted_8 : decode cX3_counted 8 = .ok (.tableswitch 103 0 5 #[40, 45, 56, 61, 66, 98], 40) := by decide +kernel
theorem dX3_counted_48 : decode cX3_counted 48 = .ok (.aload_n 0, 1) := by decide +kernel
theorem dX3_counted_49 : decode cX3_counted 49 = .ok (.getfield 79, 3) := by decide +kernel
theorem dX3_counted_52 : decode cX3_counted 52 = .ok (.ireturn, 1) := by decide +kernel
theorem dX3_counted_53 : decode cX3_counted 53 = .ok (.iconst 0, 1) := by decide +kernel
theorem dX3_counted_54 : decode cX3_counted 54 = .ok (.aload_n 0, 1) := by decide +kernel
theorem dX3_counted_55 : decode cX3_counted 55 = .ok (.getfield 79, 3) := by decide +kernel
theorem dX3_counted_58 : decode cX3_counted 58 = .ok (.iconst 1, 1) := by decide +kernel
theorem dX3_counted_59 : decode cX3_counted 59 = .ok (.isub, 1) := by decide +kernel
theorem dX3_counted_60 : decode cX3_counted 60 = .ok (.invokestatic 91, 3) := by decide +kernel
theorem dX3_counted_63 : decode cX3_counted 63 = .ok (.ireturn, 1) := by decide +kernel
theorem dX3_counted_64 : decode cX3_counted 64 = .ok (.aload_n 0, 1) := by decide +kernel
theorem dX3_counted_65 : decode cX3_counted 65 = .ok (.invokevirtual 122, 3) := by decide +kernel
theorem dX3_counted_68 : decode cX3_counted 68 = .ok (.ireturn, 1) := by decide +kernel
theorem dX3_counted_69 : decode cX3_counted 69 = .ok (.aload_n 0, 1) := by decide +kernel
theorem dX3_counted_70 : decode cX3_counted 70 = .ok (.invokevirtual 125, 3) := by decide +kernel
theorem dX3_counted_73 : decode cX3_counted 73 = .ok (.ireturn, 1) := by decide +kernel
theorem dX3_counted_74 : decode cX3_counted 74 = .ok (.aload_n 0, 1) := by decide +kernel
theorem dX3_counted_75 : decode cX3_counted 75 = .ok (.getfield 79, 3) := by decide +kernel
theorem dX3_counted_78 : decode cX3_counted 78 = .ok (.ifCond .ne 7, 3) := by decide +kernel
theorem dX3_counted_81 : decode cX3_counted 81 = .ok (.iconst 0, 1) := by decide +kernel
theorem dX3_counted_82 : decode cX3_counted 82 = .ok (.goto 23, 3) := by decide +kernel
theorem dX3_counted_85 : decode cX3_counted 85 = .ok (.aload_n 0, 1) := by decide +kernel
theorem dX3_counted_86 : decode cX3_counted 86 = .ok (.getfield 19, 3) := by decide +kernel
theorem dX3_counted_89 : decode cX3_counted 89 = .ok (.iconst 0, 1) := by decide +kernel
theorem dX3_counted_90 : decode cX3_counted 90 = .ok (.iaload, 1) := by decide +kernel
theorem dX3_counted_91 : decode cX3_counted 91 = .ok (.aload_n 0, 1) := by decide +kernel
theorem dX3_counted_92 : decode cX3_counted 92 = .ok (.getfield 19, 3) := by decide +kernel
theorem dX3_counted_95 : decode cX3_counted 95 = .ok (.aload_n 0, 1) := by decide +kernel
theorem dX3_counted_96 : decode cX3_counted 96 = .ok (.getfield 79, 3) := by decide +kernel
theorem dX3_counted_99 : decode cX3_counted 99 = .ok (.iconst 1, 1) := by decide +kernel
theorem dX3_counted_100 : decode cX3_counted 100 = .ok (.isub, 1) := by decide +kernel
theorem dX3_counted_101 : decode cX3_counted 101 = .ok (.iaload, 1) := by decide +kernel
theorem dX3_counted_102 : decode cX3_counted 102 = .ok (.invokestatic 128, 3) := by decide +kernel
theorem dX3_counted_105 : decode cX3_counted 105 = .ok (.ireturn, 1) := by decide +kernel
theorem dX3_counted_106 : decode cX3_counted 106 = .ok (.aload_n 0, 1) := by decide +kernel
theorem dX3_counted_107 : decode cX3_counted 107 = .ok (.invokevirtual 131, 3) := by decide +kernel
theorem dX3_counted_110 : decode cX3_counted 110 = .ok (.ireturn, 1) := by decide +kernel
theorem dX3_counted_111 : decode cX3_counted 111 = .ok (.iconst 0, 1) := by decide +kernel
theorem dX3_counted_112 : decode cX3_counted 112 = .ok (.istore 4, 2) := by decide +kernel
theorem dX3_counted_114 : decode cX3_counted 114 = .ok (.iload 4, 2) := by decide +kernel
theorem dX3_counted_116 : decode cX3_counted 116 = .ok (.aload_n 0, 1) := by decide +kernel
theorem dX3_counted_117 : decode cX3_counted 117 = .ok (.getfield 79, 3) := by decide +kernel
theorem dX3_counted_120 : decode cX3_counted 120 = .ok (.if_icmp .ge 24, 3) := by decide +kernel
theorem dX3_counted_123 : decode cX3_counted 123 = .ok (.iload_n 3, 1) := by decide +kernel
theorem dX3_counted_124 : decode cX3_counted 124 = .ok (.aload_n 0, 1) := by decide +kernel
theorem dX3_counted_125 : decode cX3_counted 125 = .ok (.getfield 16, 3) := by decide +kernel
theorem dX3_counted_128 : decode cX3_counted 128 = .ok (.bipush 24, 2) := by decide +kernel
theorem dX3_counted_130 : decode cX3_counted 130 = .ok (.iload_n 1, 1) := by decide +kernel
theorem dX3_counted_131 : decode cX3_counted 131 = .ok (.imul, 1) := by decide +kernel
theorem dX3_counted_132 : decode cX3_counted 132 = .ok (.iload 4, 2) := by decide +kernel
theorem dX3_counted_134 : decode cX3_counted 134 = .ok (.iadd, 1) := by decide +kernel
theorem dX3_counted_135 : decode cX3_counted 135 = .ok (.iaload, 1) := by decide +kernel
theorem dX3_counted_136 : decode cX3_counted 136 = .ok (.iadd, 1) := by decide +kernel
theorem dX3_counted_137 : decode cX3_counted 137 = .ok (.istore_n 3, 1) := by decide +kernel
theorem dX3_counted_138 : decode cX3_counted 138 = .ok (.iinc 4 1, 3) := by decide +kernel
theorem dX3_counted_141 : decode cX3_counted 141 = .ok (.goto (-27), 3) := by decide +kernel
theorem dX3_counted_144 : decode cX3_counted 144 = .ok (.iload_n 3, 1) := by decide +kernel
theorem dX3_counted_145 : decode cX3_counted 145 = .ok (.ireturn, 1) := by decide +kernel
theorem dX3_count_0 : decode cX3_count 0 = .ok (.aload_n 0, 1) := by decide +kernel
theorem dX3_count_1 : decode cX3_count 1 = .ok (.iconst 0, 1) := by decide +kernel
theorem dX3_count_2 : decode cX3_count 2 = .ok (.putfield 40, 3) := by decide +kernel
theorem dX3_count_5 : decode cX3_count 5 = .ok (.iload_n 1, 1) := by decide +kernel
theorem dX3_count_6 : decode cX3_count 6 = .ok (.invokestatic 94, 3) := by decide +kernel
theorem dX3_count_9 : decode cX3_count 9 = .ok (.ifCond .eq 22, 3) := by decide +kernel
theorem dX3_count_12 : decode cX3_count 12 = .ok (.iload_n 2, 1) := by decide +kernel
theorem dX3_count_13 : decode cX3_count 13 = .ok (.iconst 0, 1) := by decide +kernel
theorem dX3_count_14 : decode cX3_count 14 = .ok (.bipush 6, 2) := by decide +kernel
theorem dX3_count_16 : decode cX3_count 16 = .ok (.invokestatic 44, 3) := by decide +kernel
theorem dX3_count_19 : decode cX3_count 19 = .ok (.ifCond .eq 12, 3) := by decide +kernel
theorem dX3_count_22 : decode cX3_count 22 = .ok (.aload_n 0, 1) := by decide +kernel
theorem dX3_count_23 : decode cX3_count 23 = .ok (.iload_n 1, 1) := by decide +kernel
theorem dX3_count_24 : decode cX3_count 24 = .ok (.iload_n 2, 1) := by decide +kernel
theorem dX3_count_25 : decode cX3_count 25 = .ok (.invokevirtual 134, 3) := by decide +kernel
theorem dX3_count_28 : decode cX3_count 28 = .ok (.goto 8, 3) := by decide +kernel
theorem dX3_count_31 : decode cX3_count 31 = .ok (.aload_n 0, 1) := by decide +kernel
theorem dX3_count_32 : decode cX3_count 32 = .ok (.iconst 1, 1) := by decide +kernel
theorem dX3_count_33 : decode cX3_count 33 = .ok (.invokevirtual 98, 3) := by decide +kernel
theorem dX3_count_36 : decode cX3_count 36 = .ok (.ireturn, 1) := by decide +kernel
theorem dX3_signTold_0 : decode cX3_signTold 0 = .ok (.iload_n 2, 1) := by decide +kernel
theorem dX3_signTold_1 : decode cX3_signTold 1 = .ok (.tableswitch 100 0 5 #[39, 46, 60, 72, 86, 93], 39) := by decide +kernel
theorem dX3_signTold_40 : decode cX3_signTold 40 = .ok (.aload_n 0, 1) := by decide +kernel
theorem dX3_signTold_41 : decode cX3_signTold 41 = .ok (.getfield 22, 3) := by decide +kernel
theorem dX3_signTold_44 : decode cX3_signTold 44 = .ok (.iload_n 1, 1) := by decide +kernel
theorem dX3_signTold_45 : decode cX3_signTold 45 = .ok (.iaload, 1) := by decide +kernel
theorem dX3_signTold_46 : decode cX3_signTold 46 = .ok (.ireturn, 1) := by decide +kernel
theorem dX3_signTold_47 : decode cX3_signTold 47 = .ok (.aload_n 0, 1) := by decide +kernel
theorem dX3_signTold_48 : decode cX3_signTold 48 = .ok (.getfield 28, 3) := by decide +kernel
theorem dX3_signTold_51 : decode cX3_signTold 51 = .ok (.iload_n 1, 1) := by decide +kernel
theorem dX3_signTold_52 : decode cX3_signTold 52 = .ok (.iaload, 1) := by decide +kernel
theorem dX3_signTold_53 : decode cX3_signTold 53 = .ok (.aload_n 0, 1) := by decide +kernel
theorem dX3_signTold_54 : decode cX3_signTold 54 = .ok (.getfield 25, 3) := by decide +kernel
theorem dX3_signTold_57 : decode cX3_signTold 57 = .ok (.iload_n 1, 1) := by decide +kernel
theorem dX3_signTold_58 : decode cX3_signTold 58 = .ok (.iaload, 1) := by decide +kernel
theorem dX3_signTold_59 : decode cX3_signTold 59 = .ok (.isub, 1) := by decide +kernel
theorem dX3_signTold_60 : decode cX3_signTold 60 = .ok (.ireturn, 1) := by decide +kernel
theorem dX3_signTold_61 : decode cX3_signTold 61 = .ok (.aload_n 0, 1) := by decide +kernel
theorem dX3_signTold_62 : decode cX3_signTold 62 = .ok (.getfield 19, 3) := by decide +kernel
theorem dX3_signTold_65 : decode cX3_signTold 65 = .ok (.aload_n 0, 1) := by decide +kernel
theorem dX3_signTold_66 : decode cX3_signTold 66 = .ok (.getfield 25, 3) := by decide +kernel
theorem dX3_signTold_69 : decode cX3_signTold 69 = .ok (.iload_n 1, 1) := by decide +kernel
theorem dX3_signTold_70 : decode cX3_signTold 70 = .ok (.iaload, 1) := by decide +kernel
theorem dX3_signTold_71 : decode cX3_signTold 71 = .ok (.iaload, 1) := by decide +kernel
theorem dX3_signTold_72 : decode cX3_signTold 72 = .ok (.ireturn, 1) := by decide +kernel
theorem dX3_signTold_73 : decode cX3_signTold 73 = .ok (.aload_n 0, 1) := by decide +kernel
theorem dX3_signTold_74 : decode cX3_signTold 74 = .ok (.getfield 19, 3) := by decide +kernel
theorem dX3_signTold_77 : decode cX3_signTold 77 = .ok (.aload_n 0, 1) := by decide +kernel
theorem dX3_signTold_78 : decode cX3_signTold 78 = .ok (.getfield 28, 3) := by decide +kernel
theorem dX3_signTold_81 : decode cX3_signTold 81 = .ok (.iload_n 1, 1) := by decide +kernel
theorem dX3_signTold_82 : decode cX3_signTold 82 = .ok (.iaload, 1) := by decide +kernel
theorem dX3_signTold_83 : decode cX3_signTold 83 = .ok (.iconst 1, 1) := by decide +kernel
theorem dX3_signTold_84 : decode cX3_signTold 84 = .ok (.isub, 1) := by decide +kernel
theorem dX3_signTold_85 : decode cX3_signTold 85 = .ok (.iaload, 1) := by decide +kernel
theorem dX3_signTold_86 : decode cX3_signTold 86 = .ok (.ireturn, 1) := by decide +kernel
theorem dX3_signTold_87 : decode cX3_signTold 87 = .ok (.aload_n 0, 1) := by decide +kernel
theorem dX3_signTold_88 : decode cX3_signTold 88 = .ok (.getfield 31, 3) := by decide +kernel
theorem dX3_signTold_91 : decode cX3_signTold 91 = .ok (.iload_n 1, 1) := by decide +kernel
theorem dX3_signTold_92 : decode cX3_signTold 92 = .ok (.iaload, 1) := by decide +kernel
theorem dX3_signTold_93 : decode cX3_signTold 93 = .ok (.ireturn, 1) := by decide +kernel
theorem dX3_signTold_94 : decode cX3_signTold 94 = .ok (.aload_n 0, 1) := by decide +kernel
theorem dX3_signTold_95 : decode cX3_signTold 95 = .ok (.getfield 34, 3) := by decide +kernel
theorem dX3_signTold_98 : decode cX3_signTold 98 = .ok (.iload_n 1, 1) := by decide +kernel
theorem dX3_signTold_99 : decode cX3_signTold 99 = .ok (.iaload, 1) := by decide +kernel
theorem dX3_signTold_100 : decode cX3_signTold 100 = .ok (.ireturn, 1) := by decide +kernel
theorem dX3_signTold_101 : decode cX3_signTold 101 = .ok (.aload_n 0, 1) := by decide +kernel
theorem dX3_signTold_102 : decode cX3_signTold 102 = .ok (.getfield 37, 3) := by decide +kernel
theorem dX3_signTold_105 : decode cX3_signTold 105 = .ok (.iload_n 1, 1) := by decide +kernel
theorem dX3_signTold_106 : decode cX3_signTold 106 = .ok (.iaload, 1) := by decide +kernel
theorem dX3_signTold_107 : decode cX3_signTold 107 = .ok (.ireturn, 1) := by decide +kernel
theorem dX3_sign_0 : decode cX3_sign 0 = .ok (.aload_n 0, 1) := by decide +kernel
theorem dX3_sign_1 : decode cX3_sign 1 = .ok (.iconst 0, 1) := by decide +kernel
theorem dX3_sign_2 : decode cX3_sign 2 = .ok (.putfield 40, 3) := by decide +kernel
theorem dX3_sign_5 : decode cX3_sign 5 = .ok (.iload_n 1, 1) := by decide +kernel
theorem dX3_sign_6 : decode cX3_sign 6 = .ok (.invokestatic 94, 3) := by decide +kernel
theorem dX3_sign_9 : decode cX3_sign 9 = .ok (.ifCond .eq 13, 3) := by decide +kernel
theorem dX3_sign_12 : decode cX3_sign 12 = .ok (.iload_n 3, 1) := by decide +kernel
theorem dX3_sign_13 : decode cX3_sign 13 = .ok (.iconst 0, 1) := by decide +kernel
theorem dX3_sign_14 : decode cX3_sign 14 = .ok (.bipush 6, 2) := by decide +kernel
theorem dX3_sign_16 : decode cX3_sign 16 = .ok (.invokestatic 44, 3) := by decide +kernel
theorem dX3_sign_19 : decode cX3_sign 19 = .ok (.ifCond .ne 9, 3) := by decide +kernel
theorem dX3_sign_22 : decode cX3_sign 22 = .ok (.aload_n 0, 1) := by decide +kernel
theorem dX3_sign_23 : decode cX3_sign 23 = .ok (.iconst 1, 1) := by decide +kernel
theorem dX3_sign_24 : decode cX3_sign 24 = .ok (.invokevirtual 98, 3) := by decide +kernel
theorem dX3_sign_27 : decode cX3_sign 27 = .ok (.ireturn, 1) := by decide +kernel
theorem dX3_sign_28 : decode cX3_sign 28 = .ok (.aload_n 0, 1) := by decide +kernel
theorem dX3_sign_29 : decode cX3_sign 29 = .ok (.iload_n 1, 1) := by decide +kernel
theorem dX3_sign_30 : decode cX3_sign 30 = .ok (.invokevirtual 118, 3) := by decide +kernel
theorem dX3_sign_33 : decode cX3_sign 33 = .ok (.iload_n 2, 1) := by decide +kernel
theorem dX3_sign_34 : decode cX3_sign 34 = .ok (.iconst 0, 1) := by decide +kernel
theorem dX3_sign_35 : decode cX3_sign 35 = .ok (.aload_n 0, 1) := by decide +kernel
theorem dX3_sign_36 : decode cX3_sign 36 = .ok (.getfield 69, 3) := by decide +kernel
theorem dX3_sign_39 : decode cX3_sign 39 = .ok (.iconst 1, 1) := by decide +kernel
theorem dX3_sign_40 : decode cX3_sign 40 = .ok (.isub, 1) := by decide +kernel
theorem dX3_sign_41 : decode cX3_sign 41 = .ok (.invokestatic 44, 3) := by decide +kernel
theorem dX3_sign_44 : decode cX3_sign 44 = .ok (.ifCond .eq 12, 3) := by decide +kernel
theorem dX3_sign_47 : decode cX3_sign 47 = .ok (.aload_n 0, 1) := by decide +kernel
theorem dX3_sign_48 : decode cX3_sign 48 = .ok (.iload_n 2, 1) := by decide +kernel
theorem dX3_sign_49 : decode cX3_sign 49 = .ok (.iload_n 3, 1) := by decide +kernel
theorem dX3_sign_50 : decode cX3_sign 50 = .ok (.invokevirtual 137, 3) := by decide +kernel
theorem dX3_sign_53 : decode cX3_sign 53 = .ok (.goto 8, 3) := by decide +kernel
theorem dX3_sign_56 : decode cX3_sign 56 = .ok (.aload_n 0, 1) := by decide +kernel
theorem dX3_sign_57 : decode cX3_sign 57 = .ok (.iconst 1, 1) := by decide +kernel
theorem dX3_sign_58 : decode cX3_sign 58 = .ok (.invokevirtual 98, 3) := by decide +kernel
theorem dX3_sign_61 : decode cX3_sign 61 = .ok (.ireturn, 1) := by decide +kernel
theorem dX3_walk_0 : decode cX3_walk 0 = .ok (.aload_n 0, 1) := by decide +kernel
theorem dX3_walk_1 : decode cX3_walk 1 = .ok (.iconst 0, 1) := by decide +kernel
theorem dX3_walk_2 : decode cX3_walk 2 = .ok (.putfield 40, 3) := by decide +kernel
theorem dX3_walk_5 : decode cX3_walk 5 = .ok (.iload_n 1, 1) := by decide +kernel
theorem dX3_walk_6 : decode cX3_walk 6 = .ok (.invokestatic 94, 3) := by decide +kernel
theorem dX3_walk_9 : decode cX3_walk 9 = .ok (.ifCond .eq 12, 3) := by decide +kernel
theorem dX3_walk_12 : decode cX3_walk 12 = .ok (.iload_n 3, 1) := by decide +kernel
theorem dX3_walk_13 : decode cX3_walk 13 = .ok (.iconst 0, 1) := by decide +kernel
theorem dX3_walk_14 : decode cX3_walk 14 = .ok (.iconst 2, 1) := by decide +kernel
theorem dX3_walk_15 : decode cX3_walk 15 = .ok (.invokestatic 44, 3) := by decide +kernel
theorem dX3_walk_18 : decode cX3_walk 18 = .ok (.ifCond .ne 9, 3) := by decide +kernel
theorem dX3_walk_21 : decode cX3_walk 21 = .ok (.aload_n 0, 1) := by decide +kernel
theorem dX3_walk_22 : decode cX3_walk 22 = .ok (.iconst 1, 1) := by decide +kernel
theorem dX3_walk_23 : decode cX3_walk 23 = .ok (.invokevirtual 98, 3) := by decide +kernel
theorem dX3_walk_26 : decode cX3_walk 26 = .ok (.ireturn, 1) := by decide +kernel
theorem dX3_walk_27 : decode cX3_walk 27 = .ok (.iload_n 2, 1) := by decide +kernel
theorem dX3_walk_28 : decode cX3_walk 28 = .ok (.invokestatic 101, 3) := by decide +kernel
theorem dX3_walk_31 : decode cX3_walk 31 = .ok (.ifCond .ne 9, 3) := by decide +kernel
theorem dX3_walk_34 : decode cX3_walk 34 = .ok (.aload_n 0, 1) := by decide +kernel
theorem dX3_walk_35 : decode cX3_walk 35 = .ok (.iconst 2, 1) := by decide +kernel
theorem dX3_walk_36 : decode cX3_walk 36 = .ok (.invokevirtual 98, 3) := by decide +kernel
theorem dX3_walk_39 : decode cX3_walk 39 = .ok (.ireturn, 1) := by decide +kernel
theorem dX3_walk_40 : decode cX3_walk 40 = .ok (.aload_n 0, 1) := by decide +kernel
theorem dX3_walk_41 : decode cX3_walk 41 = .ok (.getfield 9, 3) := by decide +kernel
theorem dX3_walk_44 : decode cX3_walk 44 = .ok (.iload_n 1, 1) := by decide +kernel
theorem dX3_walk_45 : decode cX3_walk 45 = .ok (.iaload, 1) := by decide +kernel
theorem dX3_walk_46 : decode cX3_walk 46 = .ok (.ifCond .ne 9, 3) := by decide +kernel
theorem dX3_walk_49 : decode cX3_walk 49 = .ok (.aload_n 0, 1) := by decide +kernel
theorem dX3_walk_50 : decode cX3_walk 50 = .ok (.iconst 3, 1) := by decide +kernel
theorem dX3_walk_51 : decode cX3_walk 51 = .ok (.invokevirtual 98, 3) := by decide +kernel
theorem dX3_walk_54 : decode cX3_walk 54 = .ok (.ireturn, 1) := by decide +kernel
theorem dX3_walk_55 : decode cX3_walk 55 = .ok (.aload_n 0, 1) := by decide +kernel
theorem dX3_walk_56 : decode cX3_walk 56 = .ok (.iload_n 1, 1) := by decide +kernel
theorem dX3_walk_57 : decode cX3_walk 57 = .ok (.invokevirtual 118, 3) := by decide +kernel
theorem dX3_walk_60 : decode cX3_walk 60 = .ok (.aload_n 0, 1) := by decide +kernel
theorem dX3_walk_61 : decode cX3_walk 61 = .ok (.iload_n 2, 1) := by decide +kernel
theorem dX3_walk_62 : decode cX3_walk 62 = .ok (.invokevirtual 140, 3) := by decide +kernel
theorem dX3_walk_65 : decode cX3_walk 65 = .ok (.istore 4, 2) := by decide +kernel
theorem dX3_walk_67 : decode cX3_walk 67 = .ok (.aload_n 0, 1) := by decide +kernel
theorem dX3_walk_68 : decode cX3_walk 68 = .ok (.getfield 19, 3) := by decide +kernel
theorem dX3_walk_71 : decode cX3_walk 71 = .ok (.aload_n 0, 1) := by decide +kernel
theorem dX3_walk_72 : decode cX3_walk 72 = .ok (.getfield 25, 3) := by decide +kernel
theorem dX3_walk_75 : decode cX3_walk 75 = .ok (.iload 4, 2) := by decide +kernel
theorem dX3_walk_77 : decode cX3_walk 77 = .ok (.iaload, 1) := by decide +kernel
theorem dX3_walk_78 : decode cX3_walk 78 = .ok (.iaload, 1) := by decide +kernel
theorem dX3_walk_79 : decode cX3_walk 79 = .ok (.istore 5, 2) := by decide +kernel
theorem dX3_walk_81 : decode cX3_walk 81 = .ok (.iload_n 3, 1) := by decide +kernel
theorem dX3_walk_82 : decode cX3_walk 82 = .ok (.ifCond .ne 13, 3) := by decide +kernel
theorem dX3_walk_85 : decode cX3_walk 85 = .ok (.aload_n 0, 1) := by decide +kernel
theorem dX3_walk_86 : decode cX3_walk 86 = .ok (.getfield 37, 3) := by decide +kernel
theorem dX3_walk_89 : decode cX3_walk 89 = .ok (.iload 4, 2) := by decide +kernel
theorem dX3_walk_91 : decode cX3_walk 91 = .ok (.iaload, 1) := by decide +kernel
theorem dX3_walk_92 : decode cX3_walk 92 = .ok (.goto 20, 3) := by decide +kernel
theorem dX3_walk_95 : decode cX3_walk 95 = .ok (.iload_n 3, 1) := by decide +kernel
theorem dX3_walk_96 : decode cX3_walk 96 = .ok (.iconst 1, 1) := by decide +kernel
theorem dX3_walk_97 : decode cX3_walk 97 = .ok (.if_icmp .ne 8, 3) := by decide +kernel
theorem dX3_walk_100 : decode cX3_walk 100 = .ok (.iload 5, 2) := by decide +kernel
theorem dX3_walk_102 : decode cX3_walk 102 = .ok (.goto 10, 3) := by decide +kernel
theorem dX3_walk_105 : decode cX3_walk 105 = .ok (.iload 5, 2) := by decide +kernel
theorem dX3_walk_107 : decode cX3_walk 107 = .ok (.iload_n 2, 1) := by decide +kernel
theorem dX3_walk_108 : decode cX3_walk 108 = .ok (.ixor, 1) := by decide +kernel
theorem dX3_walk_109 : decode cX3_walk 109 = .ok (.invokestatic 72, 3) := by decide +kernel
theorem dX3_walk_112 : decode cX3_walk 112 = .ok (.ireturn, 1) := by decide +kernel
theorem dX3_step_0 : decode cX3_step 0 = .ok (.aload_n 0, 1) := by decide +kernel
theorem dX3_step_1 : decode cX3_step 1 = .ok (.iconst 0, 1) := by decide +kernel
theorem dX3_step_2 : decode cX3_step 2 = .ok (.putfield 40, 3) := by decide +kernel
theorem dX3_step_5 : decode cX3_step 5 = .ok (.iload_n 1, 1) := by decide +kernel
theorem dX3_step_6 : decode cX3_step 6 = .ok (.invokestatic 94, 3) := by decide +kernel
theorem dX3_step_9 : decode cX3_step 9 = .ok (.ifCond .ne 9, 3) := by decide +kernel
theorem dX3_step_12 : decode cX3_step 12 = .ok (.aload_n 0, 1) := by decide +kernel
theorem dX3_step_13 : decode cX3_step 13 = .ok (.iconst 1, 1) := by decide +kernel
theorem dX3_step_14 : decode cX3_step 14 = .ok (.invokevirtual 98, 3) := by decide +kernel
theorem dX3_step_17 : decode cX3_step 17 = .ok (.ireturn, 1) := by decide +kernel
theorem dX3_step_18 : decode cX3_step 18 = .ok (.iload_n 2, 1) := by decide +kernel
theorem dX3_step_19 : decode cX3_step 19 = .ok (.invokestatic 101, 3) := by decide +kernel
theorem dX3_step_22 : decode cX3_step 22 = .ok (.ifCond .ne 9, 3) := by decide +kernel
theorem dX3_step_25 : decode cX3_step 25 = .ok (.aload_n 0, 1) := by decide +kernel
theorem dX3_step_26 : decode cX3_step 26 = .ok (.iconst 2, 1) := by decide +kernel
theorem dX3_step_27 : decode cX3_step 27 = .ok (.invokevirtual 98, 3) := by decide +kernel
theorem dX3_step_30 : decode cX3_step 30 = .ok (.ireturn, 1) := by decide +kernel
theorem dX3_step_31 : decode cX3_step 31 = .ok (.iload_n 3, 1) := by decide +kernel
theorem dX3_step_32 : decode cX3_step 32 = .ok (.ifCond .eq 14, 3) := by decide +kernel
theorem dX3_step_35 : decode cX3_step 35 = .ok (.aload_n 0, 1) := by decide +kernel
theorem dX3_step_36 : decode cX3_step 36 = .ok (.iload_n 1, 1) := by decide +kernel
theorem dX3_step_37 : decode cX3_step 37 = .ok (.iload_n 2, 1) := by decide +kernel
theorem dX3_step_38 : decode cX3_step 38 = .ok (.iconst 1, 1) := by decide +kernel
theorem dX3_step_39 : decode cX3_step 39 = .ok (.iadd, 1) := by decide +kernel
theorem dX3_step_40 : decode cX3_step 40 = .ok (.invokevirtual 55, 3) := by decide +kernel
theorem dX3_step_43 : decode cX3_step 43 = .ok (.goto 11, 3) := by decide +kernel
theorem dX3_step_46 : decode cX3_step 46 = .ok (.aload_n 0, 1) := by decide +kernel
theorem dX3_step_47 : decode cX3_step 47 = .ok (.iload_n 1, 1) := by decide +kernel
theorem dX3_step_48 : decode cX3_step 48 = .ok (.iload_n 2, 1) := by decide +kernel
theorem dX3_step_49 : decode cX3_step 49 = .ok (.invokevirtual 55, 3) := by decide +kernel
theorem dX3_step_52 : decode cX3_step 52 = .ok (.iconst 1, 1) := by decide +kernel
theorem dX3_step_53 : decode cX3_step 53 = .ok (.isub, 1) := by decide +kernel
theorem dX3_step_54 : decode cX3_step 54 = .ok (.istore 4, 2) := by decide +kernel
theorem dX3_step_56 : decode cX3_step 56 = .ok (.iload 4, 2) := by decide +kernel
theorem dX3_step_58 : decode cX3_step 58 = .ok (.iconst 0, 1) := by decide +kernel
theorem dX3_step_59 : decode cX3_step 59 = .ok (.aload_n 0, 1) := by decide +kernel
theorem dX3_step_60 : decode cX3_step 60 = .ok (.getfield 9, 3) := by decide +kernel
theorem dX3_step_63 : decode cX3_step 63 = .ok (.iload_n 1, 1) := by decide +kernel
theorem dX3_step_64 : decode cX3_step 64 = .ok (.iaload, 1) := by decide +kernel
theorem dX3_step_65 : decode cX3_step 65 = .ok (.iconst 1, 1) := by decide +kernel
theorem dX3_step_66 : decode cX3_step 66 = .ok (.isub, 1) := by decide +kernel
theorem dX3_step_67 : decode cX3_step 67 = .ok (.invokestatic 44, 3) := by decide +kernel
theorem dX3_step_70 : decode cX3_step 70 = .ok (.ifCond .eq 18, 3) := by decide +kernel
theorem dX3_step_73 : decode cX3_step 73 = .ok (.aload_n 0, 1) := by decide +kernel
theorem dX3_step_74 : decode cX3_step 74 = .ok (.getfield 13, 3) := by decide +kernel
theorem dX3_step_77 : decode cX3_step 77 = .ok (.bipush 24, 2) := by decide +kernel
theorem dX3_step_79 : decode cX3_step 79 = .ok (.iload_n 1, 1) := by decide +kernel
theorem dX3_step_80 : decode cX3_step 80 = .ok (.imul, 1) := by decide +kernel
theorem dX3_step_81 : decode cX3_step 81 = .ok (.iload 4, 2) := by decide +kernel
theorem dX3_step_83 : decode cX3_step 83 = .ok (.iadd, 1) := by decide +kernel
theorem dX3_step_84 : decode cX3_step 84 = .ok (.iaload, 1) := by decide +kernel
theorem dX3_step_85 : decode cX3_step 85 = .ok (.goto 4, 3) := by decide +kernel
theorem dX3_step_88 : decode cX3_step 88 = .ok (.iconst (-1), 1) := by decide +kernel
theorem dX3_step_89 : decode cX3_step 89 = .ok (.ireturn, 1) := by decide +kernel
theorem dX3_at_0 : decode cX3_at 0 = .ok (.aload_n 0, 1) := by decide +kernel
theorem dX3_at_1 : decode cX3_at 1 = .ok (.iconst 0, 1) := by decide +kernel
theorem dX3_at_2 : decode cX3_at 2 = .ok (.putfield 40, 3) := by decide +kernel
theorem dX3_at_5 : decode cX3_at 5 = .ok (.iload_n 1, 1) := by decide +kernel
theorem dX3_at_6 : decode cX3_at 6 = .ok (.invokestatic 94, 3) := by decide +kernel
theorem dX3_at_9 : decode cX3_at 9 = .ok (.ifCond .eq 33, 3) := by decide +kernel
theorem dX3_at_12 : decode cX3_at 12 = .ok (.iload_n 2, 1) := by decide +kernel
theorem dX3_at_13 : decode cX3_at 13 = .ok (.iconst 0, 1) := by decide +kernel
theorem dX3_at_14 : decode cX3_at 14 = .ok (.aload_n 0, 1) := by decide +kernel
theorem dX3_at_15 : decode cX3_at 15 = .ok (.getfield 9, 3) := by decide +kernel
theorem dX3_at_18 : decode cX3_at 18 = .ok (.iload_n 1, 1) := by decide +kernel
theorem dX3_at_19 : decode cX3_at 19 = .ok (.iaload, 1) := by decide +kernel
theorem dX3_at_20 : decode cX3_at 20 = .ok (.iconst 1, 1) := by decide +kernel
theorem dX3_at_21 : decode cX3_at 21 = .ok (.isub, 1) := by decide +kernel
theorem dX3_at_22 : decode cX3_at 22 = .ok (.invokestatic 44, 3) := by decide +kernel
theorem dX3_at_25 : decode cX3_at 25 = .ok (.ifCond .eq 17, 3) := by decide +kernel
theorem dX3_at_28 : decode cX3_at 28 = .ok (.aload_n 0, 1) := by decide +kernel
theorem dX3_at_29 : decode cX3_at 29 = .ok (.getfield 13, 3) := by decide +kernel
theorem dX3_at_32 : decode cX3_at 32 = .ok (.bipush 24, 2) := by decide +kernel
theorem dX3_at_34 : decode cX3_at 34 = .ok (.iload_n 1, 1) := by decide +kernel
theorem dX3_at_35 : decode cX3_at 35 = .ok (.imul, 1) := by decide +kernel
theorem dX3_at_36 : decode cX3_at 36 = .ok (.iload_n 2, 1) := by decide +kernel
theorem dX3_at_37 : decode cX3_at 37 = .ok (.iadd, 1) := by decide +kernel
theorem dX3_at_38 : decode cX3_at 38 = .ok (.iaload, 1) := by decide +kernel
theorem dX3_at_39 : decode cX3_at 39 = .ok (.goto 8, 3) := by decide +kernel
theorem dX3_at_42 : decode cX3_at 42 = .ok (.aload_n 0, 1) := by decide +kernel
theorem dX3_at_43 : decode cX3_at 43 = .ok (.iconst 1, 1) := by decide +kernel
theorem dX3_at_44 : decode cX3_at 44 = .ok (.invokevirtual 98, 3) := by decide +kernel
theorem dX3_at_47 : decode cX3_at 47 = .ok (.ireturn, 1) := by decide +kernel
theorem dX3_ranged_0 : decode cX3_ranged 0 = .ok (.iload 4, 2) := by decide +kernel
theorem dX3_ranged_2 : decode cX3_ranged 2 = .ok (.ifCond .ne 7, 3) := by decide +kernel
theorem dX3_ranged_5 : decode cX3_ranged 5 = .ok (.iload_n 3, 1) := by decide +kernel
theorem dX3_ranged_6 : decode cX3_ranged 6 = .ok (.iload_n 2, 1) := by decide +kernel
theorem dX3_ranged_7 : decode cX3_ranged 7 = .ok (.isub, 1) := by decide +kernel
theorem dX3_ranged_8 : decode cX3_ranged 8 = .ok (.ireturn, 1) := by decide +kernel
theorem dX3_ranged_9 : decode cX3_ranged 9 = .ok (.iload 4, 2) := by decide +kernel
theorem dX3_ranged_11 : decode cX3_ranged 11 = .ok (.iconst 2, 1) := by decide +kernel
theorem dX3_ranged_12 : decode cX3_ranged 12 = .ok (.if_icmp .ne 40, 3) := by decide +kernel
theorem dX3_ranged_15 : decode cX3_ranged 15 = .ok (.iload_n 2, 1) := by decide +kernel
theorem dX3_ranged_16 : decode cX3_ranged 16 = .ok (.iload_n 3, 1) := by decide +kernel
theorem dX3_ranged_17 : decode cX3_ranged 17 = .ok (.if_icmp .ne 7, 3) := by decide +kernel
theorem dX3_ranged_20 : decode cX3_ranged 20 = .ok (.iconst 0, 1) := by decide +kernel
theorem dX3_ranged_21 : decode cX3_ranged 21 = .ok (.goto 30, 3) := by decide +kernel
theorem dX3_ranged_24 : decode cX3_ranged 24 = .ok (.aload_n 0, 1) := by decide +kernel
theorem dX3_ranged_25 : decode cX3_ranged 25 = .ok (.getfield 13, 3) := by decide +kernel
theorem dX3_ranged_28 : decode cX3_ranged 28 = .ok (.bipush 24, 2) := by decide +kernel
theorem dX3_ranged_30 : decode cX3_ranged 30 = .ok (.iload_n 1, 1) := by decide +kernel
theorem dX3_ranged_31 : decode cX3_ranged 31 = .ok (.imul, 1) := by decide +kernel
theorem dX3_ranged_32 : decode cX3_ranged 32 = .ok (.iload_n 2, 1) := by decide +kernel
theorem dX3_ranged_33 : decode cX3_ranged 33 = .ok (.iadd, 1) := by decide +kernel
theorem dX3_ranged_34 : decode cX3_ranged 34 = .ok (.iaload, 1) := by decide +kernel
theorem dX3_ranged_35 : decode cX3_ranged 35 = .ok (.aload_n 0, 1) := by decide +kernel
theorem dX3_ranged_36 : decode cX3_ranged 36 = .ok (.getfield 13, 3) := by decide +kernel
theorem dX3_ranged_39 : decode cX3_ranged 39 = .ok (.bipush 24, 2) := by decide +kernel
theorem dX3_ranged_41 : decode cX3_ranged 41 = .ok (.iload_n 1, 1) := by decide +kernel
theorem dX3_ranged_42 : decode cX3_ranged 42 = .ok (.imul, 1) := by decide +kernel
theorem dX3_ranged_43 : decode cX3_ranged 43 = .ok (.iload_n 3, 1) := by decide +kernel
theorem dX3_ranged_44 : decode cX3_ranged 44 = .ok (.iadd, 1) := by decide +kernel
theorem dX3_ranged_45 : decode cX3_ranged 45 = .ok (.iconst 1, 1) := by decide +kernel
theorem dX3_ranged_46 : decode cX3_ranged 46 = .ok (.isub, 1) := by decide +kernel
theorem dX3_ranged_47 : decode cX3_ranged 47 = .ok (.iaload, 1) := by decide +kernel
theorem dX3_ranged_48 : decode cX3_ranged 48 = .ok (.invokestatic 128, 3) := by decide +kernel
theorem dX3_ranged_51 : decode cX3_ranged 51 = .ok (.ireturn, 1) := by decide +kernel
theorem dX3_ranged_52 : decode cX3_ranged 52 = .ok (.iconst 0, 1) := by decide +kernel
theorem dX3_ranged_53 : decode cX3_ranged 53 = .ok (.istore 5, 2) := by decide +kernel
theorem dX3_ranged_55 : decode cX3_ranged 55 = .ok (.iconst (-1), 1) := by decide +kernel
theorem dX3_ranged_56 : decode cX3_ranged 56 = .ok (.istore 6, 2) := by decide +kernel
theorem dX3_ranged_58 : decode cX3_ranged 58 = .ok (.iload_n 2, 1) := by decide +kernel
theorem dX3_ranged_59 : decode cX3_ranged 59 = .ok (.istore 7, 2) := by decide +kernel
theorem dX3_ranged_61 : decode cX3_ranged 61 = .ok (.iload 7, 2) := by decide +kernel
theorem dX3_ranged_63 : decode cX3_ranged 63 = .ok (.iload_n 3, 1) := by decide +kernel
theorem dX3_ranged_64 : decode cX3_ranged 64 = .ok (.if_icmp .ge 45, 3) := by decide +kernel
theorem dX3_ranged_67 : decode cX3_ranged 67 = .ok (.iload 5, 2) := by decide +kernel
theorem dX3_ranged_69 : decode cX3_ranged 69 = .ok (.aload_n 0, 1) := by decide +kernel
theorem dX3_ranged_70 : decode cX3_ranged 70 = .ok (.getfield 16, 3) := by decide +kernel
theorem dX3_ranged_73 : decode cX3_ranged 73 = .ok (.bipush 24, 2) := by decide +kernel
theorem dX3_ranged_75 : decode cX3_ranged 75 = .ok (.iload_n 1, 1) := by decide +kernel
theorem dX3_ranged_76 : decode cX3_ranged 76 = .ok (.imul, 1) := by decide +kernel
theorem dX3_ranged_77 : decode cX3_ranged 77 = .ok (.iload 7, 2) := by decide +kernel
theorem dX3_ranged_79 : decode cX3_ranged 79 = .ok (.iadd, 1) := by decide +kernel
theorem dX3_ranged_80 : decode cX3_ranged 80 = .ok (.iaload, 1) := by decide +kernel
theorem dX3_ranged_81 : decode cX3_ranged 81 = .ok (.iadd, 1) := by decide +kernel
theorem dX3_ranged_82 : decode cX3_ranged 82 = .ok (.istore 5, 2) := by decide +kernel
theorem dX3_ranged_84 : decode cX3_ranged 84 = .ok (.iload 6, 2) := by decide +kernel
theorem dX3_ranged_86 : decode cX3_ranged 86 = .ok (.aload_n 0, 1) := by decide +kernel
theorem dX3_ranged_87 : decode cX3_ranged 87 = .ok (.getfield 16, 3) := by decide +kernel
theorem dX3_ranged_90 : decode cX3_ranged 90 = .ok (.bipush 24, 2) := by decide +kernel
theorem dX3_ranged_92 : decode cX3_ranged 92 = .ok (.iload_n 1, 1) := by decide +kernel
theorem dX3_ranged_93 : decode cX3_ranged 93 = .ok (.imul, 1) := by decide +kernel
theorem dX3_ranged_94 : decode cX3_ranged 94 = .ok (.iload 7, 2) := by decide +kernel
theorem dX3_ranged_96 : decode cX3_ranged 96 = .ok (.iadd, 1) := by decide +kernel
theorem dX3_ranged_97 : decode cX3_ranged 97 = .ok (.iaload, 1) := by decide +kernel
theorem dX3_ranged_98 : decode cX3_ranged 98 = .ok (.invokestatic 91, 3) := by decide +kernel
theorem dX3_ranged_101 : decode cX3_ranged 101 = .ok (.istore 6, 2) := by decide +kernel
theorem dX3_ranged_103 : decode cX3_ranged 103 = .ok (.iinc 7 1, 3) := by decide +kernel
theorem dX3_ranged_106 : decode cX3_ranged 106 = .ok (.goto (-45), 3) := by decide +kernel
theorem dX3_ranged_109 : decode cX3_ranged 109 = .ok (.iload 4, 2) := by decide +kernel
theorem dX3_ranged_111 : decode cX3_ranged 111 = .ok (.iconst 1, 1) := by decide +kernel
theorem dX3_ranged_112 : decode cX3_ranged 112 = .ok (.if_icmp .ne 8, 3) := by decide +kernel
theorem dX3_ranged_115 : decode cX3_ranged 115 = .ok (.iload 5, 2) := by decide +kernel
theorem dX3_ranged_117 : decode cX3_ranged 117 = .ok (.goto 5, 3) := by decide +kernel
theorem dX3_ranged_120 : decode cX3_ranged 120 = .ok (.iload 6, 2) := by decide +kernel
theorem dX3_ranged_122 : decode cX3_ranged 122 = .ok (.ireturn, 1) := by decide +kernel
theorem dX3_range_0 : decode cX3_range 0 = .ok (.aload_n 0, 1) := by decide +kernel
theorem dX3_range_1 : decode cX3_range 1 = .ok (.iconst 0, 1) := by decide +kernel
theorem dX3_range_2 : decode cX3_range 2 = .ok (.putfield 40, 3) := by decide +kernel
theorem dX3_range_5 : decode cX3_range 5 = .ok (.iload_n 1, 1) := by decide +kernel
theorem dX3_range_6 : decode cX3_range 6 = .ok (.invokestatic 94, 3) := by decide +kernel
theorem dX3_range_9 : decode cX3_range 9 = .ok (.ifCond .eq 13, 3) := by decide +kernel
theorem dX3_range_12 : decode cX3_range 12 = .ok (.iload 4, 2) := by decide +kernel
theorem dX3_range_14 : decode cX3_range 14 = .ok (.iconst 0, 1) := by decide +kernel
theorem dX3_range_15 : decode cX3_range 15 = .ok (.iconst 3, 1) := by decide +kernel
theorem dX3_range_16 : decode cX3_range 16 = .ok (.invokestatic 44, 3) := by decide +kernel
theorem dX3_range_19 : decode cX3_range 19 = .ok (.ifCond .ne 9, 3) := by decide +kernel
theorem dX3_range_22 : decode cX3_range 22 = .ok (.aload_n 0, 1) := by decide +kernel
theorem dX3_range_23 : decode cX3_range 23 = .ok (.iconst 1, 1) := by decide +kernel
theorem dX3_range_24 : decode cX3_range 24 = .ok (.invokevirtual 98, 3) := by decide +kernel
theorem dX3_range_27 : decode cX3_range 27 = .ok (.ireturn, 1) := by decide +kernel
theorem dX3_range_28 : decode cX3_range 28 = .ok (.iload_n 2, 1) := by decide +kernel
theorem dX3_range_29 : decode cX3_range 29 = .ok (.invokestatic 101, 3) := by decide +kernel
theorem dX3_range_32 : decode cX3_range 32 = .ok (.ifCond .eq 15, 3) := by decide +kernel
theorem dX3_range_35 : decode cX3_range 35 = .ok (.iload_n 3, 1) := by decide +kernel
theorem dX3_range_36 : decode cX3_range 36 = .ok (.invokestatic 101, 3) := by decide +kernel
theorem dX3_range_39 : decode cX3_range 39 = .ok (.ifCond .eq 8, 3) := by decide +kernel
theorem dX3_range_42 : decode cX3_range 42 = .ok (.iload_n 2, 1) := by decide +kernel
theorem dX3_range_43 : decode cX3_range 43 = .ok (.iload_n 3, 1) := by decide +kernel
theorem dX3_range_44 : decode cX3_range 44 = .ok (.if_icmp .le 9, 3) := by decide +kernel
theorem dX3_range_47 : decode cX3_range 47 = .ok (.aload_n 0, 1) := by decide +kernel
theorem dX3_range_48 : decode cX3_range 48 = .ok (.iconst 2, 1) := by decide +kernel
theorem dX3_range_49 : decode cX3_range 49 = .ok (.invokevirtual 98, 3) := by decide +kernel
theorem dX3_range_52 : decode cX3_range 52 = .ok (.ireturn, 1) := by decide +kernel
theorem dX3_range_53 : decode cX3_range 53 = .ok (.aload_n 0, 1) := by decide +kernel
theorem dX3_range_54 : decode cX3_range 54 = .ok (.iload_n 1, 1) := by decide +kernel
theorem dX3_range_55 : decode cX3_range 55 = .ok (.aload_n 0, 1) := by decide +kernel
theorem dX3_range_56 : decode cX3_range 56 = .ok (.iload_n 1, 1) := by decide +kernel
theorem dX3_range_57 : decode cX3_range 57 = .ok (.iload_n 2, 1) := by decide +kernel
theorem dX3_range_58 : decode cX3_range 58 = .ok (.invokevirtual 55, 3) := by decide +kernel
theorem dX3_range_61 : decode cX3_range 61 = .ok (.aload_n 0, 1) := by decide +kernel
theorem dX3_range_62 : decode cX3_range 62 = .ok (.iload_n 1, 1) := by decide +kernel
theorem dX3_range_63 : decode cX3_range 63 = .ok (.iload_n 3, 1) := by decide +kernel
theorem dX3_range_64 : decode cX3_range 64 = .ok (.iconst 1, 1) := by decide +kernel
theorem dX3_range_65 : decode cX3_range 65 = .ok (.iadd, 1) := by decide +kernel
theorem dX3_range_66 : decode cX3_range 66 = .ok (.invokevirtual 55, 3) := by decide +kernel
theorem dX3_range_69 : decode cX3_range 69 = .ok (.iload 4, 2) := by decide +kernel
theorem dX3_range_71 : decode cX3_range 71 = .ok (.invokevirtual 143, 3) := by decide +kernel
theorem dX3_range_74 : decode cX3_range 74 = .ok (.ireturn, 1) := by decide +kernel
theorem dX3_near_0 : decode cX3_near 0 = .ok (.aload_n 0, 1) := by decide +kernel
theorem dX3_near_1 : decode cX3_near 1 = .ok (.iconst 0, 1) := by decide +kernel
theorem dX3_near_2 : decode cX3_near 2 = .ok (.putfield 40, 3) := by decide +kernel
theorem dX3_near_5 : decode cX3_near 5 = .ok (.iload_n 1, 1) := by decide +kernel
theorem dX3_near_6 : decode cX3_near 6 = .ok (.invokestatic 94, 3) := by decide +kernel
theorem dX3_near_9 : decode cX3_near 9 = .ok (.ifCond .ne 9, 3) := by decide +kernel
theorem dX3_near_12 : decode cX3_near 12 = .ok (.aload_n 0, 1) := by decide +kernel
theorem dX3_near_13 : decode cX3_near 13 = .ok (.iconst 1, 1) := by decide +kernel
theorem dX3_near_14 : decode cX3_near 14 = .ok (.invokevirtual 98, 3) := by decide +kernel
theorem dX3_near_17 : decode cX3_near 17 = .ok (.ireturn, 1) := by decide +kernel
theorem dX3_near_18 : decode cX3_near 18 = .ok (.iload_n 2, 1) := by decide +kernel
theorem dX3_near_19 : decode cX3_near 19 = .ok (.invokestatic 101, 3) := by decide +kernel
theorem dX3_near_22 : decode cX3_near 22 = .ok (.ifCond .ne 9, 3) := by decide +kernel
theorem dX3_near_25 : decode cX3_near 25 = .ok (.aload_n 0, 1) := by decide +kernel
theorem dX3_near_26 : decode cX3_near 26 = .ok (.iconst 2, 1) := by decide +kernel
theorem dX3_near_27 : decode cX3_near 27 = .ok (.invokevirtual 98, 3) := by decide +kernel
theorem dX3_near_30 : decode cX3_near 30 = .ok (.ireturn, 1) := by decide +kernel
theorem dX3_near_31 : decode cX3_near 31 = .ok (.iconst (-1), 1) := by decide +kernel
theorem dX3_near_32 : decode cX3_near 32 = .ok (.istore_n 3, 1) := by decide +kernel
theorem dX3_near_33 : decode cX3_near 33 = .ok (.bipush 24, 2) := by decide +kernel
theorem dX3_near_35 : decode cX3_near 35 = .ok (.iload_n 1, 1) := by decide +kernel
theorem dX3_near_36 : decode cX3_near 36 = .ok (.imul, 1) := by decide +kernel
theorem dX3_near_37 : decode cX3_near 37 = .ok (.istore 4, 2) := by decide +kernel
theorem dX3_near_39 : decode cX3_near 39 = .ok (.iload 4, 2) := by decide +kernel
theorem dX3_near_41 : decode cX3_near 41 = .ok (.bipush 24, 2) := by decide +kernel
theorem dX3_near_43 : decode cX3_near 43 = .ok (.iload_n 1, 1) := by decide +kernel
theorem dX3_near_44 : decode cX3_near 44 = .ok (.imul, 1) := by decide +kernel
theorem dX3_near_45 : decode cX3_near 45 = .ok (.aload_n 0, 1) := by decide +kernel
theorem dX3_near_46 : decode cX3_near 46 = .ok (.getfield 9, 3) := by decide +kernel
theorem dX3_near_49 : decode cX3_near 49 = .ok (.iload_n 1, 1) := by decide +kernel
theorem dX3_near_50 : decode cX3_near 50 = .ok (.iaload, 1) := by decide +kernel
theorem dX3_near_51 : decode cX3_near 51 = .ok (.iadd, 1) := by decide +kernel
theorem dX3_near_52 : decode cX3_near 52 = .ok (.if_icmp .ge 37, 3) := by decide +kernel
theorem dX3_near_55 : decode cX3_near 55 = .ok (.iload_n 3, 1) := by decide +kernel
theorem dX3_near_56 : decode cX3_near 56 = .ok (.iconst (-1), 1) := by decide +kernel
theorem dX3_near_57 : decode cX3_near 57 = .ok (.if_icmp .eq 18, 3) := by decide +kernel
theorem dX3_near_60 : decode cX3_near 60 = .ok (.aload_n 0, 1) := by decide +kernel
theorem dX3_near_61 : decode cX3_near 61 = .ok (.getfield 13, 3) := by decide +kernel
theorem dX3_near_64 : decode cX3_near 64 = .ok (.iload 4, 2) := by decide +kernel
theorem dX3_near_66 : decode cX3_near 66 = .ok (.iaload, 1) := by decide +kernel
theorem dX3_near_67 : decode cX3_near 67 = .ok (.iload_n 2, 1) := by decide +kernel
theorem dX3_near_68 : decode cX3_near 68 = .ok (.ixor, 1) := by decide +kernel
theorem dX3_near_69 : decode cX3_near 69 = .ok (.iload_n 3, 1) := by decide +kernel
theorem dX3_near_70 : decode cX3_near 70 = .ok (.iload_n 2, 1) := by decide +kernel
theorem dX3_near_71 : decode cX3_near 71 = .ok (.ixor, 1) := by decide +kernel
theorem dX3_near_72 : decode cX3_near 72 = .ok (.if_icmp .ge 11, 3) := by decide +kernel
theorem dX3_near_75 : decode cX3_near 75 = .ok (.aload_n 0, 1) := by decide +kernel
theorem dX3_near_76 : decode cX3_near 76 = .ok (.getfield 13, 3) := by decide +kernel
theorem dX3_near_79 : decode cX3_near 79 = .ok (.iload 4, 2) := by decide +kernel
theorem dX3_near_81 : decode cX3_near 81 = .ok (.iaload, 1) := by decide +kernel
theorem dX3_near_82 : decode cX3_near 82 = .ok (.istore_n 3, 1) := by decide +kernel
theorem dX3_near_83 : decode cX3_near 83 = .ok (.iinc 4 1, 3) := by decide +kernel
theorem dX3_near_86 : decode cX3_near 86 = .ok (.goto (-47), 3) := by decide +kernel
theorem dX3_near_89 : decode cX3_near 89 = .ok (.iload_n 3, 1) := by decide +kernel
theorem dX3_near_90 : decode cX3_near 90 = .ok (.ireturn, 1) := by decide +kernel
theorem dX3_farthest_0 : decode cX3_farthest 0 = .ok (.iconst (-1), 1) := by decide +kernel
theorem dX3_farthest_1 : decode cX3_farthest 1 = .ok (.istore_n 2, 1) := by decide +kernel
theorem dX3_farthest_2 : decode cX3_farthest 2 = .ok (.bipush 24, 2) := by decide +kernel
theorem dX3_farthest_4 : decode cX3_farthest 4 = .ok (.iload_n 1, 1) := by decide +kernel
theorem dX3_farthest_5 : decode cX3_farthest 5 = .ok (.imul, 1) := by decide +kernel
theorem dX3_farthest_6 : decode cX3_farthest 6 = .ok (.istore_n 3, 1) := by decide +kernel
theorem dX3_farthest_7 : decode cX3_farthest 7 = .ok (.iload_n 3, 1) := by decide +kernel
theorem dX3_farthest_8 : decode cX3_farthest 8 = .ok (.bipush 24, 2) := by decide +kernel
theorem dX3_farthest_10 : decode cX3_farthest 10 = .ok (.iload_n 1, 1) := by decide +kernel
theorem dX3_farthest_11 : decode cX3_farthest 11 = .ok (.imul, 1) := by decide +kernel
theorem dX3_farthest_12 : decode cX3_farthest 12 = .ok (.aload_n 0, 1) := by decide +kernel
theorem dX3_farthest_13 : decode cX3_farthest 13 = .ok (.getfield 9, 3) := by decide +kernel
theorem dX3_farthest_16 : decode cX3_farthest 16 = .ok (.iload_n 1, 1) := by decide +kernel
theorem dX3_farthest_17 : decode cX3_farthest 17 = .ok (.iaload, 1) := by decide +kernel
theorem dX3_farthest_18 : decode cX3_farthest 18 = .ok (.iadd, 1) := by decide +kernel
theorem dX3_farthest_19 : decode cX3_farthest 19 = .ok (.if_icmp .ge 46, 3) := by decide +kernel
theorem dX3_farthest_22 : decode cX3_farthest 22 = .ok (.bipush 24, 2) := by decide +kernel
theorem dX3_farthest_24 : decode cX3_farthest 24 = .ok (.iload_n 1, 1) := by decide +kernel
theorem dX3_farthest_25 : decode cX3_farthest 25 = .ok (.imul, 1) := by decide +kernel
theorem dX3_farthest_26 : decode cX3_farthest 26 = .ok (.istore 4, 2) := by decide +kernel
theorem dX3_farthest_28 : decode cX3_farthest 28 = .ok (.iload 4, 2) := by decide +kernel
theorem dX3_farthest_30 : decode cX3_farthest 30 = .ok (.iload_n 3, 1) := by decide +kernel
theorem dX3_farthest_31 : decode cX3_farthest 31 = .ok (.if_icmp .ge 28, 3) := by decide +kernel
theorem dX3_farthest_34 : decode cX3_farthest 34 = .ok (.iload_n 2, 1) := by decide +kernel
theorem dX3_farthest_35 : decode cX3_farthest 35 = .ok (.aload_n 0, 1) := by decide +kernel
theorem dX3_farthest_36 : decode cX3_farthest 36 = .ok (.getfield 13, 3) := by decide +kernel
theorem dX3_farthest_39 : decode cX3_farthest 39 = .ok (.iload_n 3, 1) := by decide +kernel
theorem dX3_farthest_40 : decode cX3_farthest 40 = .ok (.iaload, 1) := by decide +kernel
theorem dX3_farthest_41 : decode cX3_farthest 41 = .ok (.aload_n 0, 1) := by decide +kernel
theorem dX3_farthest_42 : decode cX3_farthest 42 = .ok (.getfield 13, 3) := by decide +kernel
theorem dX3_farthest_45 : decode cX3_farthest 45 = .ok (.iload 4, 2) := by decide +kernel
theorem dX3_farthest_47 : decode cX3_farthest 47 = .ok (.iaload, 1) := by decide +kernel
theorem dX3_farthest_48 : decode cX3_farthest 48 = .ok (.ixor, 1) := by decide +kernel
theorem dX3_farthest_49 : decode cX3_farthest 49 = .ok (.invokestatic 91, 3) := by decide +kernel
theorem dX3_farthest_52 : decode cX3_farthest 52 = .ok (.istore_n 2, 1) := by decide +kernel
theorem dX3_farthest_53 : decode cX3_farthest 53 = .ok (.iinc 4 1, 3) := by decide +kernel
theorem dX3_farthest_56 : decode cX3_farthest 56 = .ok (.goto (-28), 3) := by decide +kernel
theorem dX3_farthest_59 : decode cX3_farthest 59 = .ok (.iinc 3 1, 3) := by decide +kernel
theorem dX3_farthest_62 : decode cX3_farthest 62 = .ok (.goto (-55), 3) := by decide +kernel
theorem dX3_farthest_65 : decode cX3_farthest 65 = .ok (.iload_n 2, 1) := by decide +kernel
theorem dX3_farthest_66 : decode cX3_farthest 66 = .ok (.ireturn, 1) := by decide +kernel
theorem dX3_far_0 : decode cX3_far 0 = .ok (.aload_n 0, 1) := by decide +kernel
theorem dX3_far_1 : decode cX3_far 1 = .ok (.iconst 0, 1) := by decide +kernel
theorem dX3_far_2 : decode cX3_far 2 = .ok (.putfield 40, 3) := by decide +kernel
theorem dX3_far_5 : decode cX3_far 5 = .ok (.iload_n 1, 1) := by decide +kernel
theorem dX3_far_6 : decode cX3_far 6 = .ok (.invokestatic 94, 3) := by decide +kernel
theorem dX3_far_9 : decode cX3_far 9 = .ok (.ifCond .eq 11, 3) := by decide +kernel
theorem dX3_far_12 : decode cX3_far 12 = .ok (.aload_n 0, 1) := by decide +kernel
theorem dX3_far_13 : decode cX3_far 13 = .ok (.iload_n 1, 1) := by decide +kernel
theorem dX3_far_14 : decode cX3_far 14 = .ok (.invokevirtual 147, 3) := by decide +kernel
theorem dX3_far_17 : decode cX3_far 17 = .ok (.goto 8, 3) := by decide +kernel
theorem dX3_far_20 : decode cX3_far 20 = .ok (.aload_n 0, 1) := by decide +kernel
theorem dX3_far_21 : decode cX3_far 21 = .ok (.iconst 1, 1) := by decide +kernel
theorem dX3_far_22 : decode cX3_far 22 = .ok (.invokevirtual 98, 3) := by decide +kernel
theorem dX3_far_25 : decode cX3_far 25 = .ok (.ireturn, 1) := by decide +kernel
theorem dX3_unlike_0 : decode cX3_unlike 0 = .ok (.aload_n 0, 1) := by decide +kernel
theorem dX3_unlike_1 : decode cX3_unlike 1 = .ok (.iconst 0, 1) := by decide +kernel
theorem dX3_unlike_2 : decode cX3_unlike 2 = .ok (.putfield 40, 3) := by decide +kernel
theorem dX3_unlike_5 : decode cX3_unlike 5 = .ok (.iload_n 1, 1) := by decide +kernel
theorem dX3_unlike_6 : decode cX3_unlike 6 = .ok (.invokestatic 101, 3) := by decide +kernel
theorem dX3_unlike_9 : decode cX3_unlike 9 = .ok (.ifCond .eq 19, 3) := by decide +kernel
theorem dX3_unlike_12 : decode cX3_unlike 12 = .ok (.iload_n 2, 1) := by decide +kernel
theorem dX3_unlike_13 : decode cX3_unlike 13 = .ok (.invokestatic 101, 3) := by decide +kernel
theorem dX3_unlike_16 : decode cX3_unlike 16 = .ok (.ifCond .eq 12, 3) := by decide +kernel
theorem dX3_unlike_19 : decode cX3_unlike 19 = .ok (.iload_n 1, 1) := by decide +kernel
theorem dX3_unlike_20 : decode cX3_unlike 20 = .ok (.iload_n 2, 1) := by decide +kernel
theorem dX3_unlike_21 : decode cX3_unlike 21 = .ok (.ixor, 1) := by decide +kernel
theorem dX3_unlike_22 : decode cX3_unlike 22 = .ok (.invokestatic 72, 3) := by decide +kernel
theorem dX3_unlike_25 : decode cX3_unlike 25 = .ok (.goto 8, 3) := by decide +kernel
theorem dX3_unlike_28 : decode cX3_unlike 28 = .ok (.aload_n 0, 1) := by decide +kernel
theorem dX3_unlike_29 : decode cX3_unlike 29 = .ok (.iconst 1, 1) := by decide +kernel
theorem dX3_unlike_30 : decode cX3_unlike 30 = .ok (.invokevirtual 98, 3) := by decide +kernel
theorem dX3_unlike_33 : decode cX3_unlike 33 = .ok (.ireturn, 1) := by decide +kernel
theorem dX3_wouldBe_0 : decode cX3_wouldBe 0 = .ok (.aload_n 0, 1) := by decide +kernel
theorem dX3_wouldBe_1 : decode cX3_wouldBe 1 = .ok (.invokevirtual 150, 3) := by decide +kernel
theorem dX3_wouldBe_4 : decode cX3_wouldBe 4 = .ok (.iload_n 1, 1) := by decide +kernel
theorem dX3_wouldBe_5 : decode cX3_wouldBe 5 = .ok (.ifCond .ne 10, 3) := by decide +kernel
theorem dX3_wouldBe_8 : decode cX3_wouldBe 8 = .ok (.aload_n 0, 1) := by decide +kernel
theorem dX3_wouldBe_9 : decode cX3_wouldBe 9 = .ok (.getfield 79, 3) := by decide +kernel
theorem dX3_wouldBe_12 : decode cX3_wouldBe 12 = .ok (.goto 37, 3) := by decide +kernel
theorem dX3_wouldBe_15 : decode cX3_wouldBe 15 = .ok (.iload_n 1, 1) := by decide +kernel
theorem dX3_wouldBe_16 : decode cX3_wouldBe 16 = .ok (.iconst 1, 1) := by decide +kernel
theorem dX3_wouldBe_17 : decode cX3_wouldBe 17 = .ok (.if_icmp .ne 16, 3) := by decide +kernel
theorem dX3_wouldBe_20 : decode cX3_wouldBe 20 = .ok (.iconst 0, 1) := by decide +kernel
theorem dX3_wouldBe_21 : decode cX3_wouldBe 21 = .ok (.aload_n 0, 1) := by decide +kernel
theorem dX3_wouldBe_22 : decode cX3_wouldBe 22 = .ok (.getfield 79, 3) := by decide +kernel
theorem dX3_wouldBe_25 : decode cX3_wouldBe 25 = .ok (.iconst 1, 1) := by decide +kernel
theorem dX3_wouldBe_26 : decode cX3_wouldBe 26 = .ok (.isub, 1) := by decide +kernel
theorem dX3_wouldBe_27 : decode cX3_wouldBe 27 = .ok (.invokestatic 91, 3) := by decide +kernel
theorem dX3_wouldBe_30 : decode cX3_wouldBe 30 = .ok (.goto 19, 3) := by decide +kernel
theorem dX3_wouldBe_33 : decode cX3_wouldBe 33 = .ok (.iload_n 1, 1) := by decide +kernel
theorem dX3_wouldBe_34 : decode cX3_wouldBe 34 = .ok (.iconst 2, 1) := by decide +kernel
theorem dX3_wouldBe_35 : decode cX3_wouldBe 35 = .ok (.if_icmp .ne 10, 3) := by decide +kernel
theorem dX3_wouldBe_38 : decode cX3_wouldBe 38 = .ok (.aload_n 0, 1) := by decide +kernel
theorem dX3_wouldBe_39 : decode cX3_wouldBe 39 = .ok (.invokevirtual 122, 3) := by decide +kernel
theorem dX3_wouldBe_42 : decode cX3_wouldBe 42 = .ok (.goto 7, 3) := by decide +kernel
theorem dX3_wouldBe_45 : decode cX3_wouldBe 45 = .ok (.aload_n 0, 1) := by decide +kernel
theorem dX3_wouldBe_46 : decode cX3_wouldBe 46 = .ok (.invokevirtual 125, 3) := by decide +kernel
theorem dX3_wouldBe_49 : decode cX3_wouldBe 49 = .ok (.ireturn, 1) := by decide +kernel
theorem dX3_would_0 : decode cX3_would 0 = .ok (.aload_n 0, 1) := by decide +kernel
theorem dX3_would_1 : decode cX3_would 1 = .ok (.iconst 0, 1) := by decide +kernel
theorem dX3_would_2 : decode cX3_would 2 = .ok (.putfield 40, 3) := by decide +kernel
theorem dX3_would_5 : decode cX3_would 5 = .ok (.iload_n 1, 1) := by decide +kernel
theorem dX3_would_6 : decode cX3_would 6 = .ok (.iconst 0, 1) := by decide +kernel
theorem dX3_would_7 : decode cX3_would 7 = .ok (.iconst 3, 1) := by decide +kernel
theorem dX3_would_8 : decode cX3_would 8 = .ok (.invokestatic 44, 3) := by decide +kernel
theorem dX3_would_11 : decode cX3_would 11 = .ok (.ifCond .eq 11, 3) := by decide +kernel
theorem dX3_would_14 : decode cX3_would 14 = .ok (.aload_n 0, 1) := by decide +kernel
theorem dX3_would_15 : decode cX3_would 15 = .ok (.iload_n 1, 1) := by decide +kernel
theorem dX3_would_16 : decode cX3_would 16 = .ok (.invokevirtual 153, 3) := by decide +kernel
theorem dX3_would_19 : decode cX3_would 19 = .ok (.goto 8, 3) := by decide +kernel
theorem dX3_would_22 : decode cX3_would 22 = .ok (.aload_n 0, 1) := by decide +kernel
theorem dX3_would_23 : decode cX3_would 23 = .ok (.iconst 1, 1) := by decide +kernel
theorem dX3_would_24 : decode cX3_would 24 = .ok (.invokevirtual 98, 3) := by decide +kernel
theorem dX3_would_27 : decode cX3_would 27 = .ok (.ireturn, 1) := by decide +kernel
theorem dX3_advise_0 : decode cX3_advise 0 = .ok (.aload_n 0, 1) := by decide +kernel
theorem dX3_advise_1 : decode cX3_advise 1 = .ok (.iconst 0, 1) := by decide +kernel
theorem dX3_advise_2 : decode cX3_advise 2 = .ok (.putfield 40, 3) := by decide +kernel
theorem dX3_advise_5 : decode cX3_advise 5 = .ok (.iload_n 1, 1) := by decide +kernel
theorem dX3_advise_6 : decode cX3_advise 6 = .ok (.invokestatic 94, 3) := by decide +kernel
theorem dX3_advise_9 : decode cX3_advise 9 = .ok (.ifCond .ne 9, 3) := by decide +kernel
theorem dX3_advise_12 : decode cX3_advise 12 = .ok (.aload_n 0, 1) := by decide +kernel
theorem dX3_advise_13 : decode cX3_advise 13 = .ok (.iconst 1, 1) := by decide +kernel
theorem dX3_advise_14 : decode cX3_advise 14 = .ok (.invokevirtual 98, 3) := by decide +kernel
theorem dX3_advise_17 : decode cX3_advise 17 = .ok (.ireturn, 1) := by decide +kernel
theorem dX3_advise_18 : decode cX3_advise 18 = .ok (.iconst (-1), 1) := by decide +kernel
theorem dX3_advise_19 : decode cX3_advise 19 = .ok (.istore_n 2, 1) := by decide +kernel
theorem dX3_advise_20 : decode cX3_advise 20 = .ok (.iconst 0, 1) := by decide +kernel
theorem dX3_advise_21 : decode cX3_advise 21 = .ok (.istore_n 3, 1) := by decide +kernel
theorem dX3_advise_22 : decode cX3_advise 22 = .ok (.iconst 0, 1) := by decide +kernel
theorem dX3_advise_23 : decode cX3_advise 23 = .ok (.istore 4, 2) := by decide +kernel
theorem dX3_advise_25 : decode cX3_advise 25 = .ok (.iload 4, 2) := by decide +kernel
theorem dX3_advise_27 : decode cX3_advise 27 = .ok (.aload_n 0, 1) := by decide +kernel
theorem dX3_advise_28 : decode cX3_advise 28 = .ok (.getfield 9, 3) := by decide +kernel
theorem dX3_advise_31 : decode cX3_advise 31 = .ok (.iload_n 1, 1) := by decide +kernel
theorem dX3_advise_32 : decode cX3_advise 32 = .ok (.iaload, 1) := by decide +kernel
theorem dX3_advise_33 : decode cX3_advise 33 = .ok (.if_icmp .ge 50, 3) := by decide +kernel
theorem dX3_advise_36 : decode cX3_advise 36 = .ok (.aload_n 0, 1) := by decide +kernel
theorem dX3_advise_37 : decode cX3_advise 37 = .ok (.iload_n 1, 1) := by decide +kernel
theorem dX3_advise_38 : decode cX3_advise 38 = .ok (.iload 4, 2) := by decide +kernel
theorem dX3_advise_40 : decode cX3_advise 40 = .ok (.invokevirtual 156, 3) := by decide +kernel
theorem dX3_advise_43 : decode cX3_advise 43 = .ok (.iload_n 2, 1) := by decide +kernel
theorem dX3_advise_44 : decode cX3_advise 44 = .ok (.iconst (-1), 1) := by decide +kernel
theorem dX3_advise_45 : decode cX3_advise 45 = .ok (.if_icmp .eq 14, 3) := by decide +kernel
theorem dX3_advise_48 : decode cX3_advise 48 = .ok (.aload_n 0, 1) := by decide +kernel
theorem dX3_advise_49 : decode cX3_advise 49 = .ok (.invokevirtual 125, 3) := by decide +kernel
theorem dX3_advise_52 : decode cX3_advise 52 = .ok (.iload_n 3, 1) := by decide +kernel
theorem dX3_advise_53 : decode cX3_advise 53 = .ok (.if_icmp .lt 6, 3) := by decide +kernel
theorem dX3_advise_56 : decode cX3_advise 56 = .ok (.goto 21, 3) := by decide +kernel
theorem dX3_advise_59 : decode cX3_advise 59 = .ok (.aload_n 0, 1) := by decide +kernel
theorem dX3_advise_60 : decode cX3_advise 60 = .ok (.getfield 13, 3) := by decide +kernel
theorem dX3_advise_63 : decode cX3_advise 63 = .ok (.bipush 24, 2) := by decide +kernel
theorem dX3_advise_65 : decode cX3_advise 65 = .ok (.iload_n 1, 1) := by decide +kernel
theorem dX3_advise_66 : decode cX3_advise 66 = .ok (.imul, 1) := by decide +kernel
theorem dX3_advise_67 : decode cX3_advise 67 = .ok (.iload 4, 2) := by decide +kernel
theorem dX3_advise_69 : decode cX3_advise 69 = .ok (.iadd, 1) := by decide +kernel
theorem dX3_advise_70 : decode cX3_advise 70 = .ok (.iaload, 1) := by decide +kernel
theorem dX3_advise_71 : decode cX3_advise 71 = .ok (.istore_n 2, 1) := by decide +kernel
theorem dX3_advise_72 : decode cX3_advise 72 = .ok (.aload_n 0, 1) := by decide +kernel
theorem dX3_advise_73 : decode cX3_advise 73 = .ok (.invokevirtual 125, 3) := by decide +kernel
theorem dX3_advise_76 : decode cX3_advise 76 = .ok (.istore_n 3, 1) := by decide +kernel
theorem dX3_advise_77 : decode cX3_advise 77 = .ok (.iinc 4 1, 3) := by decide +kernel
theorem dX3_advise_80 : decode cX3_advise 80 = .ok (.goto (-55), 3) := by decide +kernel
theorem dX3_advise_83 : decode cX3_advise 83 = .ok (.iload_n 2, 1) := by decide +kernel
theorem dX3_advise_84 : decode cX3_advise 84 = .ok (.ireturn, 1) := by decide +kernel
theorem dX3_mean_0 : decode cX3_mean 0 = .ok (.aload_n 0, 1) := by decide +kernel
theorem dX3_mean_1 : decode cX3_mean 1 = .ok (.iload_n 1, 1) := by decide +kernel
theorem dX3_mean_2 : decode cX3_mean 2 = .ok (.invokestatic 94, 3) := by decide +kernel
theorem dX3_mean_5 : decode cX3_mean 5 = .ok (.ifCond .eq 7, 3) := by decide +kernel
theorem dX3_mean_8 : decode cX3_mean 8 = .ok (.iconst 0, 1) := by decide +kernel
theorem dX3_mean_9 : decode cX3_mean 9 = .ok (.goto 4, 3) := by decide +kernel
theorem dX3_mean_12 : decode cX3_mean 12 = .ok (.iconst 1, 1) := by decide +kernel
theorem dX3_mean_13 : decode cX3_mean 13 = .ok (.putfield 40, 3) := by decide +kernel
theorem dX3_mean_16 : decode cX3_mean 16 = .ok (.aload_n 0, 1) := by decide +kernel
theorem dX3_mean_17 : decode cX3_mean 17 = .ok (.getfield 40, 3) := by decide +kernel
theorem dX3_mean_20 : decode cX3_mean 20 = .ok (.ifCond .gt 12, 3) := by decide +kernel
theorem dX3_mean_23 : decode cX3_mean 23 = .ok (.aload_n 0, 1) := by decide +kernel
theorem dX3_mean_24 : decode cX3_mean 24 = .ok (.getfield 9, 3) := by decide +kernel
theorem dX3_mean_27 : decode cX3_mean 27 = .ok (.iload_n 1, 1) := by decide +kernel
theorem dX3_mean_28 : decode cX3_mean 28 = .ok (.iaload, 1) := by decide +kernel
theorem dX3_mean_29 : decode cX3_mean 29 = .ok (.ifCond .ne 5, 3) := by decide +kernel
theorem dX3_mean_32 : decode cX3_mean 32 = .ok (.dconst 0, 1) := by decide +kernel
theorem dX3_mean_33 : decode cX3_mean 33 = .ok (.dreturn, 1) := by decide +kernel
theorem dX3_mean_34 : decode cX3_mean 34 = .ok (.aload_n 0, 1) := by decide +kernel
theorem dX3_mean_35 : decode cX3_mean 35 = .ok (.iload_n 1, 1) := by decide +kernel
theorem dX3_mean_36 : decode cX3_mean 36 = .ok (.invokevirtual 118, 3) := by decide +kernel
theorem dX3_mean_39 : decode cX3_mean 39 = .ok (.aload_n 0, 1) := by decide +kernel
theorem dX3_mean_40 : decode cX3_mean 40 = .ok (.invokevirtual 125, 3) := by decide +kernel
theorem dX3_mean_43 : decode cX3_mean 43 = .ok (.i2d, 1) := by decide +kernel
theorem dX3_mean_44 : decode cX3_mean 44 = .ok (.aload_n 0, 1) := by decide +kernel
theorem dX3_mean_45 : decode cX3_mean 45 = .ok (.getfield 79, 3) := by decide +kernel
theorem dX3_mean_48 : decode cX3_mean 48 = .ok (.i2d, 1) := by decide +kernel
theorem dX3_mean_49 : decode cX3_mean 49 = .ok (.ddiv, 1) := by decide +kernel
theorem dX3_mean_50 : decode cX3_mean 50 = .ok (.dreturn, 1) := by decide +kernel
theorem dX3_digest_0 : decode cX3_digest 0 = .ok (.aload_n 0, 1) := by decide +kernel
theorem dX3_digest_1 : decode cX3_digest 1 = .ok (.iconst 0, 1) := by decide +kernel
theorem dX3_digest_2 : decode cX3_digest 2 = .ok (.putfield 40, 3) := by decide +kernel
theorem dX3_digest_5 : decode cX3_digest 5 = .ok (.ldc2_w 160, 3) := by decide +kernel
theorem dX3_digest_8 : decode cX3_digest 8 = .ok (.lstore_n 1, 1) := by decide +kernel
theorem dX3_digest_9 : decode cX3_digest 9 = .ok (.iconst 0, 1) := by decide +kernel
theorem dX3_digest_10 : decode cX3_digest 10 = .ok (.istore_n 3, 1) := by decide +kernel
theorem dX3_digest_11 : decode cX3_digest 11 = .ok (.iload_n 3, 1) := by decide +kernel
theorem dX3_digest_12 : decode cX3_digest 12 = .ok (.iconst 2, 1) := by decide +kernel
theorem dX3_digest_13 : decode cX3_digest 13 = .ok (.if_icmp .ge 143, 3) := by decide +kernel
theorem dX3_digest_16 : decode cX3_digest 16 = .ok (.iconst 0, 1) := by decide +kernel
theorem dX3_digest_17 : decode cX3_digest 17 = .ok (.istore 4, 2) := by decide +kernel
theorem dX3_digest_19 : decode cX3_digest 19 = .ok (.iload 4, 2) := by decide +kernel
theorem dX3_digest_21 : decode cX3_digest 21 = .ok (.bipush 6, 2) := by decide +kernel
theorem dX3_digest_23 : decode cX3_digest 23 = .ok (.if_icmp .gt 24, 3) := by decide +kernel
theorem dX3_digest_26 : decode cX3_digest 26 = .ok (.lload_n 1, 1) := by decide +kernel
theorem dX3_digest_27 : decode cX3_digest 27 = .ok (.ldc2_w 162, 3) := by decide +kernel
theorem dX3_digest_30 : decode cX3_digest 30 = .ok (.lmul, 1) := by decide +kernel
theorem dX3_digest_31 : decode cX3_digest 31 = .ok (.aload_n 0, 1) := by decide +kernel
theorem dX3_digest_32 : decode cX3_digest 32 = .ok (.iload_n 3, 1) := by decide +kernel
theorem dX3_digest_33 : decode cX3_digest 33 = .ok (.iload 4, 2) := by decide +kernel
theorem dX3_digest_35 : decode cX3_digest 35 = .ok (.invokevirtual 134, 3) := by decide +kernel
theorem dX3_digest_38 : decode cX3_digest 38 = .ok (.i2l, 1) := by decide +kernel
theorem dX3_digest_39 : decode cX3_digest 39 = .ok (.ladd, 1) := by decide +kernel
theorem dX3_digest_40 : decode cX3_digest 40 = .ok (.lstore_n 1, 1) := by decide +kernel
theorem dX3_digest_41 : decode cX3_digest 41 = .ok (.iinc 4 1, 3) := by decide +kernel
theorem dX3_digest_44 : decode cX3_digest 44 = .ok (.goto (-25), 3) := by decide +kernel
theorem dX3_digest_47 : decode cX3_digest 47 = .ok (.lload_n 1, 1) := by decide +kernel
theorem dX3_digest_48 : decode cX3_digest 48 = .ok (.ldc2_w 162, 3) := by decide +kernel
theorem dX3_digest_51 : decode cX3_digest 51 = .ok (.lmul, 1) := by decide +kernel
theorem dX3_digest_52 : decode cX3_digest 52 = .ok (.aload_n 0, 1) := by decide +kernel
theorem dX3_digest_53 : decode cX3_digest 53 = .ok (.iload_n 3, 1) := by decide +kernel
theorem dX3_digest_54 : decode cX3_digest 54 = .ok (.invokevirtual 147, 3) := by decide +kernel
theorem dX3_digest_57 : decode cX3_digest 57 = .ok (.i2l, 1) := by decide +kernel
theorem dX3_digest_58 : decode cX3_digest 58 = .ok (.ladd, 1) := by decide +kernel
theorem dX3_digest_59 : decode cX3_digest 59 = .ok (.lstore_n 1, 1) := by decide +kernel
theorem dX3_digest_60 : decode cX3_digest 60 = .ok (.iconst 0, 1) := by decide +kernel
theorem dX3_digest_61 : decode cX3_digest 61 = .ok (.istore 4, 2) := by decide +kernel
theorem dX3_digest_63 : decode cX3_digest 63 = .ok (.iload 4, 2) := by decide +kernel
theorem dX3_digest_65 : decode cX3_digest 65 = .ok (.aload_n 0, 1) := by decide +kernel
theorem dX3_digest_66 : decode cX3_digest 66 = .ok (.getfield 69, 3) := by decide +kernel
theorem dX3_digest_69 : decode cX3_digest 69 = .ok (.if_icmp .ge 41, 3) := by decide +kernel
theorem dX3_digest_72 : decode cX3_digest 72 = .ok (.iconst 0, 1) := by decide +kernel
theorem dX3_digest_73 : decode cX3_digest 73 = .ok (.istore 5, 2) := by decide +kernel
theorem dX3_digest_75 : decode cX3_digest 75 = .ok (.iload 5, 2) := by decide +kernel
theorem dX3_digest_77 : decode cX3_digest 77 = .ok (.bipush 6, 2) := by decide +kernel
theorem dX3_digest_79 : decode cX3_digest 79 = .ok (.if_icmp .gt 25, 3) := by decide +kernel
theorem dX3_digest_82 : decode cX3_digest 82 = .ok (.lload_n 1, 1) := by decide +kernel
theorem dX3_digest_83 : decode cX3_digest 83 = .ok (.ldc2_w 162, 3) := by decide +kernel
theorem dX3_digest_86 : decode cX3_digest 86 = .ok (.lmul, 1) := by decide +kernel
theorem dX3_digest_87 : decode cX3_digest 87 = .ok (.aload_n 0, 1) := by decide +kernel
theorem dX3_digest_88 : decode cX3_digest 88 = .ok (.iload 4, 2) := by decide +kernel
theorem dX3_digest_90 : decode cX3_digest 90 = .ok (.iload 5, 2) := by decide +kernel
theorem dX3_digest_92 : decode cX3_digest 92 = .ok (.invokevirtual 137, 3) := by decide +kernel
theorem dX3_digest_95 : decode cX3_digest 95 = .ok (.i2l, 1) := by decide +kernel
theorem dX3_digest_96 : decode cX3_digest 96 = .ok (.ladd, 1) := by decide +kernel
theorem dX3_digest_97 : decode cX3_digest 97 = .ok (.lstore_n 1, 1) := by decide +kernel
theorem dX3_digest_98 : decode cX3_digest 98 = .ok (.iinc 5 1, 3) := by decide +kernel
theorem dX3_digest_101 : decode cX3_digest 101 = .ok (.goto (-26), 3) := by decide +kernel
theorem dX3_digest_104 : decode cX3_digest 104 = .ok (.iinc 4 1, 3) := by decide +kernel
theorem dX3_digest_107 : decode cX3_digest 107 = .ok (.goto (-44), 3) := by decide +kernel
theorem dX3_digest_110 : decode cX3_digest 110 = .ok (.iconst 0, 1) := by decide +kernel
theorem dX3_digest_111 : decode cX3_digest 111 = .ok (.istore 4, 2) := by decide +kernel
theorem dX3_digest_113 : decode cX3_digest 113 = .ok (.iload 4, 2) := by decide +kernel
theorem dX3_digest_115 : decode cX3_digest 115 = .ok (.aload_n 0, 1) := by decide +kernel
theorem dX3_digest_116 : decode cX3_digest 116 = .ok (.getfield 9, 3) := by decide +kernel
theorem dX3_digest_119 : decode cX3_digest 119 = .ok (.iload_n 3, 1) := by decide +kernel
theorem dX3_digest_120 : decode cX3_digest 120 = .ok (.iaload, 1) := by decide +kernel
theorem dX3_digest_121 : decode cX3_digest 121 = .ok (.if_icmp .ge 29, 3) := by decide +kernel
theorem dX3_digest_124 : decode cX3_digest 124 = .ok (.lload_n 1, 1) := by decide +kernel
theorem dX3_digest_125 : decode cX3_digest 125 = .ok (.ldc2_w 162, 3) := by decide +kernel
theorem dX3_digest_128 : decode cX3_digest 128 = .ok (.lmul, 1) := by decide +kernel
theorem dX3_digest_129 : decode cX3_digest 129 = .ok (.aload_n 0, 1) := by decide +kernel
theorem dX3_digest_130 : decode cX3_digest 130 = .ok (.getfield 16, 3) := by decide +kernel
theorem dX3_digest_133 : decode cX3_digest 133 = .ok (.bipush 24, 2) := by decide +kernel
theorem dX3_digest_135 : decode cX3_digest 135 = .ok (.iload_n 3, 1) := by decide +kernel
theorem dX3_digest_136 : decode cX3_digest 136 = .ok (.imul, 1) := by decide +kernel
theorem dX3_digest_137 : decode cX3_digest 137 = .ok (.iload 4, 2) := by decide +kernel
theorem dX3_digest_139 : decode cX3_digest 139 = .ok (.iadd, 1) := by decide +kernel
theorem dX3_digest_140 : decode cX3_digest 140 = .ok (.iaload, 1) := by decide +kernel
theorem dX3_digest_141 : decode cX3_digest 141 = .ok (.i2l, 1) := by decide +kernel
theorem dX3_digest_142 : decode cX3_digest 142 = .ok (.ladd, 1) := by decide +kernel
theorem dX3_digest_143 : decode cX3_digest 143 = .ok (.lstore_n 1, 1) := by decide +kernel
theorem dX3_digest_144 : decode cX3_digest 144 = .ok (.iinc 4 1, 3) := by decide +kernel
theorem dX3_digest_147 : decode cX3_digest 147 = .ok (.goto (-34), 3) := by decide +kernel
theorem dX3_digest_150 : decode cX3_digest 150 = .ok (.iinc 3 1, 3) := by decide +kernel
theorem dX3_digest_153 : decode cX3_digest 153 = .ok (.goto (-142), 3) := by decide +kernel
theorem dX3_digest_156 : decode cX3_digest 156 = .ok (.iconst 0, 1) := by decide +kernel
theorem dX3_digest_157 : decode cX3_digest 157 = .ok (.istore_n 3, 1) := by decide +kernel
theorem dX3_digest_158 : decode cX3_digest 158 = .ok (.iload_n 3, 1) := by decide +kernel
theorem dX3_digest_159 : decode cX3_digest 159 = .ok (.iconst 3, 1) := by decide +kernel
theorem dX3_digest_160 : decode cX3_digest 160 = .ok (.if_icmp .gt 22, 3) := by decide +kernel
theorem dX3_digest_163 : decode cX3_digest 163 = .ok (.lload_n 1, 1) := by decide +kernel
theorem dX3_digest_164 : decode cX3_digest 164 = .ok (.ldc2_w 162, 3) := by decide +kernel
theorem dX3_digest_167 : decode cX3_digest 167 = .ok (.lmul, 1) := by decide +kernel
theorem dX3_digest_168 : decode cX3_digest 168 = .ok (.aload_n 0, 1) := by decide +kernel
theorem dX3_digest_169 : decode cX3_digest 169 = .ok (.iload_n 3, 1) := by decide +kernel
theorem dX3_digest_170 : decode cX3_digest 170 = .ok (.invokevirtual 153, 3) := by decide +kernel
theorem dX3_digest_173 : decode cX3_digest 173 = .ok (.i2l, 1) := by decide +kernel
theorem dX3_digest_174 : decode cX3_digest 174 = .ok (.ladd, 1) := by decide +kernel
theorem dX3_digest_175 : decode cX3_digest 175 = .ok (.lstore_n 1, 1) := by decide +kernel
theorem dX3_digest_176 : decode cX3_digest 176 = .ok (.iinc 3 1, 3) := by decide +kernel
theorem dX3_digest_179 : decode cX3_digest 179 = .ok (.goto (-21), 3) := by decide +kernel
theorem dX3_digest_182 : decode cX3_digest 182 = .ok (.lload_n 1, 1) := by decide +kernel
theorem dX3_digest_183 : decode cX3_digest 183 = .ok (.lreturn, 1) := by decide +kernel
end
section
theorem dL_put_0 : decode cL_put 0 = .ok (.aload 4, 2) := by decide +kernel
theorem dL_put_2 : decode cL_put 2 = .ok (.iconst 0, 1) := by decide +kernel
theorem dL_put_3 : decode cL_put 3 = .ok (.aload_n 0, 1) := by decide +kernel
theorem dL_put_4 : decode cL_put 4 = .ok (.iload_n 1, 1) := by decide +kernel
theorem dL_put_5 : decode cL_put 5 = .ok (.iload_n 2, 1) := by decide +kernel
theorem dL_put_6 : decode cL_put 6 = .ok (.iload_n 3, 1) := by decide +kernel
theorem dL_put_7 : decode cL_put 7 = .ok (.invokevirtual 7, 3) := by decide +kernel
theorem dL_put_10 : decode cL_put 10 = .ok (.i2l, 1) := by decide +kernel
theorem dL_put_11 : decode cL_put 11 = .ok (.lastore, 1) := by decide +kernel
theorem dL_put_12 : decode cL_put 12 = .ok (.goto 15, 3) := by decide +kernel
theorem dL_put_15 : decode cL_put 15 = .ok (.astore 5, 2) := by decide +kernel
theorem dL_put_17 : decode cL_put 17 = .ok (.iconst 1, 1) := by decide +kernel
theorem dL_put_18 : decode cL_put 18 = .ok (.ireturn, 1) := by decide +kernel
theorem dL_put_19 : decode cL_put 19 = .ok (.astore 5, 2) := by decide +kernel
theorem dL_put_21 : decode cL_put 21 = .ok (.iconst 2, 1) := by decide +kernel
theorem dL_put_22 : decode cL_put 22 = .ok (.ireturn, 1) := by decide +kernel
theorem dL_put_23 : decode cL_put 23 = .ok (.astore 5, 2) := by decide +kernel
theorem dL_put_25 : decode cL_put 25 = .ok (.iconst 3, 1) := by decide +kernel
theorem dL_put_26 : decode cL_put 26 = .ok (.ireturn, 1) := by decide +kernel
theorem dL_put_27 : decode cL_put 27 = .ok (.iconst 0, 1) := by decide +kernel
theorem dL_put_28 : decode cL_put 28 = .ok (.ireturn, 1) := by decide +kernel
theorem dL_take_0 : decode cL_take 0 = .ok (.aload_n 3, 1) := by decide +kernel
theorem dL_take_1 : decode cL_take 1 = .ok (.iconst 0, 1) := by decide +kernel
theorem dL_take_2 : decode cL_take 2 = .ok (.aload_n 0, 1) := by decide +kernel
theorem dL_take_3 : decode cL_take 3 = .ok (.iload_n 1, 1) := by decide +kernel
theorem dL_take_4 : decode cL_take 4 = .ok (.iload_n 2, 1) := by decide +kernel
theorem dL_take_5 : decode cL_take 5 = .ok (.invokevirtual 19, 3) := by decide +kernel
theorem dL_take_8 : decode cL_take 8 = .ok (.i2l, 1) := by decide +kernel
theorem dL_take_9 : decode cL_take 9 = .ok (.lastore, 1) := by decide +kernel
theorem dL_take_10 : decode cL_take 10 = .ok (.goto 15, 3) := by decide +kernel
theorem dL_take_13 : decode cL_take 13 = .ok (.astore 4, 2) := by decide +kernel
theorem dL_take_15 : decode cL_take 15 = .ok (.iconst 1, 1) := by decide +kernel
theorem dL_take_16 : decode cL_take 16 = .ok (.ireturn, 1) := by decide +kernel
theorem dL_take_17 : decode cL_take 17 = .ok (.astore 4, 2) := by decide +kernel
theorem dL_take_19 : decode cL_take 19 = .ok (.iconst 2, 1) := by decide +kernel
theorem dL_take_20 : decode cL_take 20 = .ok (.ireturn, 1) := by decide +kernel
theorem dL_take_21 : decode cL_take 21 = .ok (.astore 4, 2) := by decide +kernel
theorem dL_take_23 : decode cL_take 23 = .ok (.iconst 3, 1) := by decide +kernel
theorem dL_take_24 : decode cL_take 24 = .ok (.ireturn, 1) := by decide +kernel
theorem dL_take_25 : decode cL_take 25 = .ok (.iconst 0, 1) := by decide +kernel
theorem dL_take_26 : decode cL_take 26 = .ok (.ireturn, 1) := by decide +kernel
theorem dL_merge_0 : decode cL_merge 0 = .ok (.aload_n 3, 1) := by decide +kernel
theorem dL_merge_1 : decode cL_merge 1 = .ok (.iconst 0, 1) := by decide +kernel
theorem dL_merge_2 : decode cL_merge 2 = .ok (.aload_n 0, 1) := by decide +kernel
theorem dL_merge_3 : decode cL_merge 3 = .ok (.iload_n 1, 1) := by decide +kernel
theorem dL_merge_4 : decode cL_merge 4 = .ok (.iload_n 2, 1) := by decide +kernel
theorem dL_merge_5 : decode cL_merge 5 = .ok (.invokevirtual 23, 3) := by decide +kernel
theorem dL_merge_8 : decode cL_merge 8 = .ok (.i2l, 1) := by decide +kernel
theorem dL_merge_9 : decode cL_merge 9 = .ok (.lastore, 1) := by decide +kernel
theorem dL_merge_10 : decode cL_merge 10 = .ok (.goto 11, 3) := by decide +kernel
theorem dL_merge_13 : decode cL_merge 13 = .ok (.astore 4, 2) := by decide +kernel
theorem dL_merge_15 : decode cL_merge 15 = .ok (.iconst 1, 1) := by decide +kernel
theorem dL_merge_16 : decode cL_merge 16 = .ok (.ireturn, 1) := by decide +kernel
theorem dL_merge_17 : decode cL_merge 17 = .ok (.astore 4, 2) := by decide +kernel
theorem dL_merge_19 : decode cL_merge 19 = .ok (.iconst 2, 1) := by decide +kernel
theorem dL_merge_20 : decode cL_merge 20 = .ok (.ireturn, 1) := by decide +kernel
theorem dL_merge_21 : decode cL_merge 21 = .ok (.iconst 0, 1) := by decide +kernel
theorem dL_merge_22 : decode cL_merge 22 = .ok (.ireturn, 1) := by decide +kernel
theorem dL_cut_0 : decode cL_cut 0 = .ok (.aload_n 3, 1) := by decide +kernel
theorem dL_cut_1 : decode cL_cut 1 = .ok (.iconst 0, 1) := by decide +kernel
theorem dL_cut_2 : decode cL_cut 2 = .ok (.aload_n 0, 1) := by decide +kernel
theorem dL_cut_3 : decode cL_cut 3 = .ok (.iload_n 1, 1) := by decide +kernel
theorem dL_cut_4 : decode cL_cut 4 = .ok (.iload_n 2, 1) := by decide +kernel
theorem dL_cut_5 : decode cL_cut 5 = .ok (.invokevirtual 26, 3) := by decide +kernel
theorem dL_cut_8 : decode cL_cut 8 = .ok (.i2l, 1) := by decide +kernel
theorem dL_cut_9 : decode cL_cut 9 = .ok (.lastore, 1) := by decide +kernel
theorem dL_cut_10 : decode cL_cut 10 = .ok (.goto 15, 3) := by decide +kernel
theorem dL_cut_13 : decode cL_cut 13 = .ok (.astore 4, 2) := by decide +kernel
theorem dL_cut_15 : decode cL_cut 15 = .ok (.iconst 1, 1) := by decide +kernel
theorem dL_cut_16 : decode cL_cut 16 = .ok (.ireturn, 1) := by decide +kernel
theorem dL_cut_17 : decode cL_cut 17 = .ok (.astore 4, 2) := by decide +kernel
theorem dL_cut_19 : decode cL_cut 19 = .ok (.iconst 2, 1) := by decide +kernel
theorem dL_cut_20 : decode cL_cut 20 = .ok (.ireturn, 1) := by decide +kernel
theorem dL_cut_21 : decode cL_cut 21 = .ok (.astore 4, 2) := by decide +kernel
theorem dL_cut_23 : decode cL_cut 23 = .ok (.iconst 3, 1) := by decide +kernel
theorem dL_cut_24 : decode cL_cut 24 = .ok (.ireturn, 1) := by decide +kernel
theorem dL_cut_25 : decode cL_cut 25 = .ok (.iconst 0, 1) := by decide +kernel
theorem dL_cut_26 : decode cL_cut 26 = .ok (.ireturn, 1) := by decide +kernel
theorem dL_turn_0 : decode cL_turn 0 = .ok (.aload_n 3, 1) := by decide +kernel
theorem dL_turn_1 : decode cL_turn 1 = .ok (.iconst 0, 1) := by decide +kernel
theorem dL_turn_2 : decode cL_turn 2 = .ok (.aload_n 0, 1) := by decide +kernel
theorem dL_turn_3 : decode cL_turn 3 = .ok (.iload_n 1, 1) := by decide +kernel
theorem dL_turn_4 : decode cL_turn 4 = .ok (.iload_n 2, 1) := by decide +kernel
theorem dL_turn_5 : decode cL_turn 5 = .ok (.invokevirtual 29, 3) := by decide +kernel
theorem dL_turn_8 : decode cL_turn 8 = .ok (.i2l, 1) := by decide +kernel
theorem dL_turn_9 : decode cL_turn 9 = .ok (.lastore, 1) := by decide +kernel
theorem dL_turn_10 : decode cL_turn 10 = .ok (.goto 15, 3) := by decide +kernel
theorem dL_turn_13 : decode cL_turn 13 = .ok (.astore 4, 2) := by decide +kernel
theorem dL_turn_15 : decode cL_turn 15 = .ok (.iconst 1, 1) := by decide +kernel
theorem dL_turn_16 : decode cL_turn 16 = .ok (.ireturn, 1) := by decide +kernel
theorem dL_turn_17 : decode cL_turn 17 = .ok (.astore 4, 2) := by decide +kernel
theorem dL_turn_19 : decode cL_turn 19 = .ok (.iconst 2, 1) := by decide +kernel
theorem dL_turn_20 : decode cL_turn 20 = .ok (.ireturn, 1) := by decide +kernel
theorem dL_turn_21 : decode cL_turn 21 = .ok (.astore 4, 2) := by decide +kernel
theorem dL_turn_23 : decode cL_turn 23 = .ok (.iconst 3, 1) := by decide +kernel
theorem dL_turn_24 : decode cL_turn 24 = .ok (.ireturn, 1) := by decide +kernel
theorem dL_turn_25 : decode cL_turn 25 = .ok (.iconst 0, 1) := by decide +kernel
theorem dL_turn_26 : decode cL_turn 26 = .ok (.ireturn, 1) := by decide +kernel
theorem dL_miles_0 : decode cL_miles 0 = .ok (.aload_n 3, 1) := by decide +kernel
theorem dL_miles_1 : decode cL_miles 1 = .ok (.iconst 0, 1) := by decide +kernel
theorem dL_miles_2 : decode cL_miles 2 = .ok (.aload_n 0, 1) := by decide +kernel
theorem dL_miles_3 : decode cL_miles 3 = .ok (.iload_n 1, 1) := by decide +kernel
theorem dL_miles_4 : decode cL_miles 4 = .ok (.iload_n 2, 1) := by decide +kernel
theorem dL_miles_5 : decode cL_miles 5 = .ok (.invokevirtual 32, 3) := by decide +kernel
theorem dL_miles_8 : decode cL_miles 8 = .ok (.i2l, 1) := by decide +kernel
theorem dL_miles_9 : decode cL_miles 9 = .ok (.lastore, 1) := by decide +kernel
theorem dL_miles_10 : decode cL_miles 10 = .ok (.goto 11, 3) := by decide +kernel
theorem dL_miles_13 : decode cL_miles 13 = .ok (.astore 4, 2) := by decide +kernel
theorem dL_miles_15 : decode cL_miles 15 = .ok (.iconst 1, 1) := by decide +kernel
theorem dL_miles_16 : decode cL_miles 16 = .ok (.ireturn, 1) := by decide +kernel
theorem dL_miles_17 : decode cL_miles 17 = .ok (.astore 4, 2) := by decide +kernel
theorem dL_miles_19 : decode cL_miles 19 = .ok (.iconst 2, 1) := by decide +kernel
theorem dL_miles_20 : decode cL_miles 20 = .ok (.ireturn, 1) := by decide +kernel
theorem dL_miles_21 : decode cL_miles 21 = .ok (.iconst 0, 1) := by decide +kernel
theorem dL_miles_22 : decode cL_miles 22 = .ok (.ireturn, 1) := by decide +kernel
theorem dL_count_0 : decode cL_count 0 = .ok (.aload_n 3, 1) := by decide +kernel
theorem dL_count_1 : decode cL_count 1 = .ok (.iconst 0, 1) := by decide +kernel
theorem dL_count_2 : decode cL_count 2 = .ok (.aload_n 0, 1) := by decide +kernel
theorem dL_count_3 : decode cL_count 3 = .ok (.iload_n 1, 1) := by decide +kernel
theorem dL_count_4 : decode cL_count 4 = .ok (.iload_n 2, 1) := by decide +kernel
theorem dL_count_5 : decode cL_count 5 = .ok (.invokevirtual 35, 3) := by decide +kernel
theorem dL_count_8 : decode cL_count 8 = .ok (.i2l, 1) := by decide +kernel
theorem dL_count_9 : decode cL_count 9 = .ok (.lastore, 1) := by decide +kernel
theorem dL_count_10 : decode cL_count 10 = .ok (.goto 7, 3) := by decide +kernel
theorem dL_count_13 : decode cL_count 13 = .ok (.astore 4, 2) := by decide +kernel
theorem dL_count_15 : decode cL_count 15 = .ok (.iconst 1, 1) := by decide +kernel
theorem dL_count_16 : decode cL_count 16 = .ok (.ireturn, 1) := by decide +kernel
theorem dL_count_17 : decode cL_count 17 = .ok (.iconst 0, 1) := by decide +kernel
theorem dL_count_18 : decode cL_count 18 = .ok (.ireturn, 1) := by decide +kernel
theorem dL_sign_0 : decode cL_sign 0 = .ok (.aload 4, 2) := by decide +kernel
theorem dL_sign_2 : decode cL_sign 2 = .ok (.iconst 0, 1) := by decide +kernel
theorem dL_sign_3 : decode cL_sign 3 = .ok (.aload_n 0, 1) := by decide +kernel
theorem dL_sign_4 : decode cL_sign 4 = .ok (.iload_n 1, 1) := by decide +kernel
theorem dL_sign_5 : decode cL_sign 5 = .ok (.iload_n 2, 1) := by decide +kernel
theorem dL_sign_6 : decode cL_sign 6 = .ok (.iload_n 3, 1) := by decide +kernel
theorem dL_sign_7 : decode cL_sign 7 = .ok (.invokevirtual 38, 3) := by decide +kernel
theorem dL_sign_10 : decode cL_sign 10 = .ok (.i2l, 1) := by decide +kernel
theorem dL_sign_11 : decode cL_sign 11 = .ok (.lastore, 1) := by decide +kernel
theorem dL_sign_12 : decode cL_sign 12 = .ok (.goto 7, 3) := by decide +kernel
theorem dL_sign_15 : decode cL_sign 15 = .ok (.astore 5, 2) := by decide +kernel
theorem dL_sign_17 : decode cL_sign 17 = .ok (.iconst 1, 1) := by decide +kernel
theorem dL_sign_18 : decode cL_sign 18 = .ok (.ireturn, 1) := by decide +kernel
theorem dL_sign_19 : decode cL_sign 19 = .ok (.iconst 0, 1) := by decide +kernel
theorem dL_sign_20 : decode cL_sign 20 = .ok (.ireturn, 1) := by decide +kernel
theorem dL_walk_0 : decode cL_walk 0 = .ok (.aload 4, 2) := by decide +kernel
theorem dL_walk_2 : decode cL_walk 2 = .ok (.iconst 0, 1) := by decide +kernel
theorem dL_walk_3 : decode cL_walk 3 = .ok (.aload_n 0, 1) := by decide +kernel
theorem dL_walk_4 : decode cL_walk 4 = .ok (.iload_n 1, 1) := by decide +kernel
theorem dL_walk_5 : decode cL_walk 5 = .ok (.iload_n 2, 1) := by decide +kernel
theorem dL_walk_6 : decode cL_walk 6 = .ok (.iload_n 3, 1) := by decide +kernel
theorem dL_walk_7 : decode cL_walk 7 = .ok (.invokevirtual 41, 3) := by decide +kernel
theorem dL_walk_10 : decode cL_walk 10 = .ok (.i2l, 1) := by decide +kernel
theorem dL_walk_11 : decode cL_walk 11 = .ok (.lastore, 1) := by decide +kernel
theorem dL_walk_12 : decode cL_walk 12 = .ok (.goto 15, 3) := by decide +kernel
theorem dL_walk_15 : decode cL_walk 15 = .ok (.astore 5, 2) := by decide +kernel
theorem dL_walk_17 : decode cL_walk 17 = .ok (.iconst 1, 1) := by decide +kernel
theorem dL_walk_18 : decode cL_walk 18 = .ok (.ireturn, 1) := by decide +kernel
theorem dL_walk_19 : decode cL_walk 19 = .ok (.astore 5, 2) := by decide +kernel
theorem dL_walk_21 : decode cL_walk 21 = .ok (.iconst 2, 1) := by decide +kernel
theorem dL_walk_22 : decode cL_walk 22 = .ok (.ireturn, 1) := by decide +kernel
theorem dL_walk_23 : decode cL_walk 23 = .ok (.astore 5, 2) := by decide +kernel
theorem dL_walk_25 : decode cL_walk 25 = .ok (.iconst 3, 1) := by decide +kernel
theorem dL_walk_26 : decode cL_walk 26 = .ok (.ireturn, 1) := by decide +kernel
theorem dL_walk_27 : decode cL_walk 27 = .ok (.iconst 0, 1) := by decide +kernel
theorem dL_walk_28 : decode cL_walk 28 = .ok (.ireturn, 1) := by decide +kernel
theorem dL_step_0 : decode cL_step 0 = .ok (.aload 4, 2) := by decide +kernel
theorem dL_step_2 : decode cL_step 2 = .ok (.iconst 0, 1) := by decide +kernel
theorem dL_step_3 : decode cL_step 3 = .ok (.aload_n 0, 1) := by decide +kernel
theorem dL_step_4 : decode cL_step 4 = .ok (.iload_n 1, 1) := by decide +kernel
theorem dL_step_5 : decode cL_step 5 = .ok (.iload_n 2, 1) := by decide +kernel
theorem dL_step_6 : decode cL_step 6 = .ok (.iload_n 3, 1) := by decide +kernel
theorem dL_step_7 : decode cL_step 7 = .ok (.invokevirtual 44, 3) := by decide +kernel
theorem dL_step_10 : decode cL_step 10 = .ok (.i2l, 1) := by decide +kernel
theorem dL_step_11 : decode cL_step 11 = .ok (.lastore, 1) := by decide +kernel
theorem dL_step_12 : decode cL_step 12 = .ok (.goto 11, 3) := by decide +kernel
theorem dL_step_15 : decode cL_step 15 = .ok (.astore 5, 2) := by decide +kernel
theorem dL_step_17 : decode cL_step 17 = .ok (.iconst 1, 1) := by decide +kernel
theorem dL_step_18 : decode cL_step 18 = .ok (.ireturn, 1) := by decide +kernel
theorem dL_step_19 : decode cL_step 19 = .ok (.astore 5, 2) := by decide +kernel
theorem dL_step_21 : decode cL_step 21 = .ok (.iconst 2, 1) := by decide +kernel
theorem dL_step_22 : decode cL_step 22 = .ok (.ireturn, 1) := by decide +kernel
theorem dL_step_23 : decode cL_step 23 = .ok (.iconst 0, 1) := by decide +kernel
theorem dL_step_24 : decode cL_step 24 = .ok (.ireturn, 1) := by decide +kernel
theorem dL_at_0 : decode cL_at 0 = .ok (.aload_n 3, 1) := by decide +kernel
theorem dL_at_1 : decode cL_at 1 = .ok (.iconst 0, 1) := by decide +kernel
theorem dL_at_2 : decode cL_at 2 = .ok (.aload_n 0, 1) := by decide +kernel
theorem dL_at_3 : decode cL_at 3 = .ok (.iload_n 1, 1) := by decide +kernel
theorem dL_at_4 : decode cL_at 4 = .ok (.iload_n 2, 1) := by decide +kernel
theorem dL_at_5 : decode cL_at 5 = .ok (.invokevirtual 48, 3) := by decide +kernel
theorem dL_at_8 : decode cL_at 8 = .ok (.i2l, 1) := by decide +kernel
theorem dL_at_9 : decode cL_at 9 = .ok (.lastore, 1) := by decide +kernel
theorem dL_at_10 : decode cL_at 10 = .ok (.goto 7, 3) := by decide +kernel
theorem dL_at_13 : decode cL_at 13 = .ok (.astore 4, 2) := by decide +kernel
theorem dL_at_15 : decode cL_at 15 = .ok (.iconst 1, 1) := by decide +kernel
theorem dL_at_16 : decode cL_at 16 = .ok (.ireturn, 1) := by decide +kernel
theorem dL_at_17 : decode cL_at 17 = .ok (.iconst 0, 1) := by decide +kernel
theorem dL_at_18 : decode cL_at 18 = .ok (.ireturn, 1) := by decide +kernel
theorem dL_range_0 : decode cL_range 0 = .ok (.aload 5, 2) := by decide +kernel
theorem dL_range_2 : decode cL_range 2 = .ok (.iconst 0, 1) := by decide +kernel
theorem dL_range_3 : decode cL_range 3 = .ok (.aload_n 0, 1) := by decide +kernel
theorem dL_range_4 : decode cL_range 4 = .ok (.iload_n 1, 1) := by decide +kernel
theorem dL_range_5 : decode cL_range 5 = .ok (.iload_n 2, 1) := by decide +kernel
theorem dL_range_6 : decode cL_range 6 = .ok (.iload_n 3, 1) := by decide +kernel
theorem dL_range_7 : decode cL_range 7 = .ok (.iload 4, 2) := by decide +kernel
theorem dL_range_9 : decode cL_range 9 = .ok (.invokevirtual 51, 3) := by decide +kernel
theorem dL_range_12 : decode cL_range 12 = .ok (.i2l, 1) := by decide +kernel
theorem dL_range_13 : decode cL_range 13 = .ok (.lastore, 1) := by decide +kernel
theorem dL_range_14 : decode cL_range 14 = .ok (.goto 11, 3) := by decide +kernel
theorem dL_range_17 : decode cL_range 17 = .ok (.astore 6, 2) := by decide +kernel
theorem dL_range_19 : decode cL_range 19 = .ok (.iconst 1, 1) := by decide +kernel
theorem dL_range_20 : decode cL_range 20 = .ok (.ireturn, 1) := by decide +kernel
theorem dL_range_21 : decode cL_range 21 = .ok (.astore 6, 2) := by decide +kernel
theorem dL_range_23 : decode cL_range 23 = .ok (.iconst 2, 1) := by decide +kernel
theorem dL_range_24 : decode cL_range 24 = .ok (.ireturn, 1) := by decide +kernel
theorem dL_range_25 : decode cL_range 25 = .ok (.iconst 0, 1) := by decide +kernel
theorem dL_range_26 : decode cL_range 26 = .ok (.ireturn, 1) := by decide +kernel
theorem dL_near_0 : decode cL_near 0 = .ok (.aload_n 3, 1) := by decide +kernel
theorem dL_near_1 : decode cL_near 1 = .ok (.iconst 0, 1) := by decide +kernel
theorem dL_near_2 : decode cL_near 2 = .ok (.aload_n 0, 1) := by decide +kernel
theorem dL_near_3 : decode cL_near 3 = .ok (.iload_n 1, 1) := by decide +kernel
theorem dL_near_4 : decode cL_near 4 = .ok (.iload_n 2, 1) := by decide +kernel
theorem dL_near_5 : decode cL_near 5 = .ok (.invokevirtual 55, 3) := by decide +kernel
theorem dL_near_8 : decode cL_near 8 = .ok (.i2l, 1) := by decide +kernel
theorem dL_near_9 : decode cL_near 9 = .ok (.lastore, 1) := by decide +kernel
theorem dL_near_10 : decode cL_near 10 = .ok (.goto 11, 3) := by decide +kernel
theorem dL_near_13 : decode cL_near 13 = .ok (.astore 4, 2) := by decide +kernel
theorem dL_near_15 : decode cL_near 15 = .ok (.iconst 1, 1) := by decide +kernel
theorem dL_near_16 : decode cL_near 16 = .ok (.ireturn, 1) := by decide +kernel
theorem dL_near_17 : decode cL_near 17 = .ok (.astore 4, 2) := by decide +kernel
theorem dL_near_19 : decode cL_near 19 = .ok (.iconst 2, 1) := by decide +kernel
theorem dL_near_20 : decode cL_near 20 = .ok (.ireturn, 1) := by decide +kernel
theorem dL_near_21 : decode cL_near 21 = .ok (.iconst 0, 1) := by decide +kernel
theorem dL_near_22 : decode cL_near 22 = .ok (.ireturn, 1) := by decide +kernel
theorem dL_far_0 : decode cL_far 0 = .ok (.aload_n 2, 1) := by decide +kernel
theorem dL_far_1 : decode cL_far 1 = .ok (.iconst 0, 1) := by decide +kernel
theorem dL_far_2 : decode cL_far 2 = .ok (.aload_n 0, 1) := by decide +kernel
theorem dL_far_3 : decode cL_far 3 = .ok (.iload_n 1, 1) := by decide +kernel
theorem dL_far_4 : decode cL_far 4 = .ok (.invokevirtual 58, 3) := by decide +kernel
theorem dL_far_7 : decode cL_far 7 = .ok (.i2l, 1) := by decide +kernel
theorem dL_far_8 : decode cL_far 8 = .ok (.lastore, 1) := by decide +kernel
theorem dL_far_9 : decode cL_far 9 = .ok (.goto 6, 3) := by decide +kernel
theorem dL_far_12 : decode cL_far 12 = .ok (.astore_n 3, 1) := by decide +kernel
theorem dL_far_13 : decode cL_far 13 = .ok (.iconst 1, 1) := by decide +kernel
theorem dL_far_14 : decode cL_far 14 = .ok (.ireturn, 1) := by decide +kernel
theorem dL_far_15 : decode cL_far 15 = .ok (.iconst 0, 1) := by decide +kernel
theorem dL_far_16 : decode cL_far 16 = .ok (.ireturn, 1) := by decide +kernel
theorem dL_unlike_0 : decode cL_unlike 0 = .ok (.aload_n 3, 1) := by decide +kernel
theorem dL_unlike_1 : decode cL_unlike 1 = .ok (.iconst 0, 1) := by decide +kernel
theorem dL_unlike_2 : decode cL_unlike 2 = .ok (.aload_n 0, 1) := by decide +kernel
theorem dL_unlike_3 : decode cL_unlike 3 = .ok (.iload_n 1, 1) := by decide +kernel
theorem dL_unlike_4 : decode cL_unlike 4 = .ok (.iload_n 2, 1) := by decide +kernel
theorem dL_unlike_5 : decode cL_unlike 5 = .ok (.invokevirtual 62, 3) := by decide +kernel
theorem dL_unlike_8 : decode cL_unlike 8 = .ok (.i2l, 1) := by decide +kernel
theorem dL_unlike_9 : decode cL_unlike 9 = .ok (.lastore, 1) := by decide +kernel
theorem dL_unlike_10 : decode cL_unlike 10 = .ok (.goto 7, 3) := by decide +kernel
theorem dL_unlike_13 : decode cL_unlike 13 = .ok (.astore 4, 2) := by decide +kernel
theorem dL_unlike_15 : decode cL_unlike 15 = .ok (.iconst 1, 1) := by decide +kernel
theorem dL_unlike_16 : decode cL_unlike 16 = .ok (.ireturn, 1) := by decide +kernel
theorem dL_unlike_17 : decode cL_unlike 17 = .ok (.iconst 0, 1) := by decide +kernel
theorem dL_unlike_18 : decode cL_unlike 18 = .ok (.ireturn, 1) := by decide +kernel
theorem dL_would_0 : decode cL_would 0 = .ok (.aload_n 2, 1) := by decide +kernel
theorem dL_would_1 : decode cL_would 1 = .ok (.iconst 0, 1) := by decide +kernel
theorem dL_would_2 : decode cL_would 2 = .ok (.aload_n 0, 1) := by decide +kernel
theorem dL_would_3 : decode cL_would 3 = .ok (.iload_n 1, 1) := by decide +kernel
theorem dL_would_4 : decode cL_would 4 = .ok (.invokevirtual 65, 3) := by decide +kernel
theorem dL_would_7 : decode cL_would 7 = .ok (.i2l, 1) := by decide +kernel
theorem dL_would_8 : decode cL_would 8 = .ok (.lastore, 1) := by decide +kernel
theorem dL_would_9 : decode cL_would 9 = .ok (.goto 6, 3) := by decide +kernel
theorem dL_would_12 : decode cL_would 12 = .ok (.astore_n 3, 1) := by decide +kernel
theorem dL_would_13 : decode cL_would 13 = .ok (.iconst 1, 1) := by decide +kernel
theorem dL_would_14 : decode cL_would 14 = .ok (.ireturn, 1) := by decide +kernel
theorem dL_would_15 : decode cL_would 15 = .ok (.iconst 0, 1) := by decide +kernel
theorem dL_would_16 : decode cL_would 16 = .ok (.ireturn, 1) := by decide +kernel
theorem dL_advise_0 : decode cL_advise 0 = .ok (.aload_n 2, 1) := by decide +kernel
theorem dL_advise_1 : decode cL_advise 1 = .ok (.iconst 0, 1) := by decide +kernel
theorem dL_advise_2 : decode cL_advise 2 = .ok (.aload_n 0, 1) := by decide +kernel
theorem dL_advise_3 : decode cL_advise 3 = .ok (.iload_n 1, 1) := by decide +kernel
theorem dL_advise_4 : decode cL_advise 4 = .ok (.invokevirtual 68, 3) := by decide +kernel
theorem dL_advise_7 : decode cL_advise 7 = .ok (.i2l, 1) := by decide +kernel
theorem dL_advise_8 : decode cL_advise 8 = .ok (.lastore, 1) := by decide +kernel
theorem dL_advise_9 : decode cL_advise 9 = .ok (.goto 6, 3) := by decide +kernel
theorem dL_advise_12 : decode cL_advise 12 = .ok (.astore_n 3, 1) := by decide +kernel
theorem dL_advise_13 : decode cL_advise 13 = .ok (.iconst 1, 1) := by decide +kernel
theorem dL_advise_14 : decode cL_advise 14 = .ok (.ireturn, 1) := by decide +kernel
theorem dL_advise_15 : decode cL_advise 15 = .ok (.iconst 0, 1) := by decide +kernel
theorem dL_advise_16 : decode cL_advise 16 = .ok (.ireturn, 1) := by decide +kernel
theorem dL_mean_0 : decode cL_mean 0 = .ok (.aload_n 2, 1) := by decide +kernel
theorem dL_mean_1 : decode cL_mean 1 = .ok (.iconst 0, 1) := by decide +kernel
theorem dL_mean_2 : decode cL_mean 2 = .ok (.aload_n 0, 1) := by decide +kernel
theorem dL_mean_3 : decode cL_mean 3 = .ok (.iload_n 1, 1) := by decide +kernel
theorem dL_mean_4 : decode cL_mean 4 = .ok (.invokevirtual 71, 3) := by decide +kernel
theorem dL_mean_7 : decode cL_mean 7 = .ok (.dastore, 1) := by decide +kernel
theorem dL_mean_8 : decode cL_mean 8 = .ok (.goto 6, 3) := by decide +kernel
theorem dL_mean_11 : decode cL_mean 11 = .ok (.astore_n 3, 1) := by decide +kernel
theorem dL_mean_12 : decode cL_mean 12 = .ok (.iconst 1, 1) := by decide +kernel
theorem dL_mean_13 : decode cL_mean 13 = .ok (.ireturn, 1) := by decide +kernel
theorem dL_mean_14 : decode cL_mean 14 = .ok (.iconst 0, 1) := by decide +kernel
theorem dL_mean_15 : decode cL_mean 15 = .ok (.ireturn, 1) := by decide +kernel
theorem dL_law_0 : decode cL_law 0 = .ok (.new 8, 3) := by decide +kernel
theorem dL_law_3 : decode cL_law 3 = .ok (.dup, 1) := by decide +kernel
theorem dL_law_4 : decode cL_law 4 = .ok (.invokespecial 75, 3) := by decide +kernel
theorem dL_law_7 : decode cL_law 7 = .ok (.astore_n 1, 1) := by decide +kernel
theorem dL_law_8 : decode cL_law 8 = .ok (.new 76, 3) := by decide +kernel
theorem dL_law_11 : decode cL_law 11 = .ok (.dup, 1) := by decide +kernel
theorem dL_law_12 : decode cL_law 12 = .ok (.invokespecial 78, 3) := by decide +kernel
theorem dL_law_15 : decode cL_law 15 = .ok (.astore_n 2, 1) := by decide +kernel
theorem dL_law_16 : decode cL_law 16 = .ok (.iconst 1, 1) := by decide +kernel
theorem dL_law_17 : decode cL_law 17 = .ok (.newarray .long, 2) := by decide +kernel
theorem dL_law_19 : decode cL_law 19 = .ok (.astore_n 3, 1) := by decide +kernel
theorem dL_law_20 : decode cL_law 20 = .ok (.iconst 1, 1) := by decide +kernel
theorem dL_law_21 : decode cL_law 21 = .ok (.newarray .double, 2) := by decide +kernel
theorem dL_law_23 : decode cL_law 23 = .ok (.astore 4, 2) := by decide +kernel
theorem dL_law_25 : decode cL_law 25 = .ok (.iconst 0, 1) := by decide +kernel
theorem dL_law_26 : decode cL_law 26 = .ok (.istore 5, 2) := by decide +kernel
theorem dL_law_28 : decode cL_law 28 = .ok (.iload 5, 2) := by decide +kernel
theorem dL_law_30 : decode cL_law 30 = .ok (.aload_n 0, 1) := by decide +kernel
theorem dL_law_31 : decode cL_law 31 = .ok (.arraylength, 1) := by decide +kernel
theorem dL_law_32 : decode cL_law 32 = .ok (.iconst 5, 1) := by decide +kernel
theorem dL_law_33 : decode cL_law 33 = .ok (.isub, 1) := by decide +kernel
theorem dL_law_34 : decode cL_law 34 = .ok (.if_icmp .gt 1407, 3) := by decide +kernel
theorem dL_law_37 : decode cL_law 37 = .ok (.aload_n 0, 1) := by decide +kernel
theorem dL_law_38 : decode cL_law 38 = .ok (.iload 5, 2) := by decide +kernel
theorem dL_law_40 : decode cL_law 40 = .ok (.iaload, 1) := by decide +kernel
theorem dL_law_41 : decode cL_law 41 = .ok (.bipush 31, 2) := by decide +kernel
theorem dL_law_43 : decode cL_law 43 = .ok (.iand, 1) := by decide +kernel
theorem dL_law_44 : decode cL_law 44 = .ok (.tableswitch 1391 0 18 #[92, 172, 240, 308, 376, 444, 512, 580, 660, 740, 836, 904, 996, 1064, 1120, 1188, 1244, 1300, 1377], 92) := by decide +kernel
theorem dL_law_136 : decode cL_law 136 = .ok (.aload_n 1, 1) := by decide +kernel
theorem dL_law_137 : decode cL_law 137 = .ok (.aload_n 0, 1) := by decide +kernel
theorem dL_law_138 : decode cL_law 138 = .ok (.iload 5, 2) := by decide +kernel
theorem dL_law_140 : decode cL_law 140 = .ok (.iconst 1, 1) := by decide +kernel
theorem dL_law_141 : decode cL_law 141 = .ok (.iadd, 1) := by decide +kernel
theorem dL_law_142 : decode cL_law 142 = .ok (.iaload, 1) := by decide +kernel
theorem dL_law_143 : decode cL_law 143 = .ok (.aload_n 0, 1) := by decide +kernel
theorem dL_law_144 : decode cL_law 144 = .ok (.iload 5, 2) := by decide +kernel
theorem dL_law_146 : decode cL_law 146 = .ok (.iconst 2, 1) := by decide +kernel
theorem dL_law_147 : decode cL_law 147 = .ok (.iadd, 1) := by decide +kernel
theorem dL_law_148 : decode cL_law 148 = .ok (.iaload, 1) := by decide +kernel
theorem dL_law_149 : decode cL_law 149 = .ok (.aload_n 0, 1) := by decide +kernel
theorem dL_law_150 : decode cL_law 150 = .ok (.iload 5, 2) := by decide +kernel
theorem dL_law_152 : decode cL_law 152 = .ok (.iconst 3, 1) := by decide +kernel
theorem dL_law_153 : decode cL_law 153 = .ok (.iadd, 1) := by decide +kernel
theorem dL_law_154 : decode cL_law 154 = .ok (.iaload, 1) := by decide +kernel
theorem dL_law_155 : decode cL_law 155 = .ok (.aload_n 3, 1) := by decide +kernel
theorem dL_law_156 : decode cL_law 156 = .ok (.invokestatic 79, 3) := by decide +kernel
theorem dL_law_159 : decode cL_law 159 = .ok (.istore 6, 2) := by decide +kernel
theorem dL_law_161 : decode cL_law 161 = .ok (.aload_n 2, 1) := by decide +kernel
theorem dL_law_162 : decode cL_law 162 = .ok (.aload_n 0, 1) := by decide +kernel
theorem dL_law_163 : decode cL_law 163 = .ok (.iload 5, 2) := by decide +kernel
theorem dL_law_165 : decode cL_law 165 = .ok (.iconst 1, 1) := by decide +kernel
theorem dL_law_166 : decode cL_law 166 = .ok (.iadd, 1) := by decide +kernel
theorem dL_law_167 : decode cL_law 167 = .ok (.iaload, 1) := by decide +kernel
theorem dL_law_168 : decode cL_law 168 = .ok (.aload_n 0, 1) := by decide +kernel
theorem dL_law_169 : decode cL_law 169 = .ok (.iload 5, 2) := by decide +kernel
theorem dL_law_171 : decode cL_law 171 = .ok (.iconst 2, 1) := by decide +kernel
theorem dL_law_172 : decode cL_law 172 = .ok (.iadd, 1) := by decide +kernel
theorem dL_law_173 : decode cL_law 173 = .ok (.iaload, 1) := by decide +kernel
theorem dL_law_174 : decode cL_law 174 = .ok (.aload_n 0, 1) := by decide +kernel
theorem dL_law_175 : decode cL_law 175 = .ok (.iload 5, 2) := by decide +kernel
theorem dL_law_177 : decode cL_law 177 = .ok (.iconst 3, 1) := by decide +kernel
theorem dL_law_178 : decode cL_law 178 = .ok (.iadd, 1) := by decide +kernel
theorem dL_law_179 : decode cL_law 179 = .ok (.iaload, 1) := by decide +kernel
theorem dL_law_180 : decode cL_law 180 = .ok (.invokevirtual 84, 3) := by decide +kernel
theorem dL_law_183 : decode cL_law 183 = .ok (.istore 7, 2) := by decide +kernel
theorem dL_law_185 : decode cL_law 185 = .ok (.aload_n 2, 1) := by decide +kernel
theorem dL_law_186 : decode cL_law 186 = .ok (.invokevirtual 85, 3) := by decide +kernel
theorem dL_law_189 : decode cL_law 189 = .ok (.iload 6, 2) := by decide +kernel
theorem dL_law_191 : decode cL_law 191 = .ok (.if_icmp .eq 5, 3) := by decide +kernel
theorem dL_law_194 : decode cL_law 194 = .ok (.iconst 0, 1) := by decide +kernel
theorem dL_law_195 : decode cL_law 195 = .ok (.ireturn, 1) := by decide +kernel
theorem dL_law_196 : decode cL_law 196 = .ok (.iload 6, 2) := by decide +kernel
theorem dL_law_198 : decode cL_law 198 = .ok (.ifCond .ne 15, 3) := by decide +kernel
theorem dL_law_201 : decode cL_law 201 = .ok (.aload_n 3, 1) := by decide +kernel
theorem dL_law_202 : decode cL_law 202 = .ok (.iconst 0, 1) := by decide +kernel
theorem dL_law_203 : decode cL_law 203 = .ok (.laload, 1) := by decide +kernel
theorem dL_law_204 : decode cL_law 204 = .ok (.iload 7, 2) := by decide +kernel
theorem dL_law_206 : decode cL_law 206 = .ok (.i2l, 1) := by decide +kernel
theorem dL_law_207 : decode cL_law 207 = .ok (.lcmp, 1) := by decide +kernel
theorem dL_law_208 : decode cL_law 208 = .ok (.ifCond .eq 5, 3) := by decide +kernel
theorem dL_law_211 : decode cL_law 211 = .ok (.iconst 0, 1) := by decide +kernel
theorem dL_law_212 : decode cL_law 212 = .ok (.ireturn, 1) := by decide +kernel
theorem dL_law_213 : decode cL_law 213 = .ok (.goto 1222, 3) := by decide +kernel
theorem dL_law_216 : decode cL_law 216 = .ok (.aload_n 1, 1) := by decide +kernel
theorem dL_law_217 : decode cL_law 217 = .ok (.aload_n 0, 1) := by decide +kernel
theorem dL_law_218 : decode cL_law 218 = .ok (.iload 5, 2) := by decide +kernel
theorem dL_law_220 : decode cL_law 220 = .ok (.iconst 1, 1) := by decide +kernel
theorem dL_law_221 : decode cL_law 221 = .ok (.iadd, 1) := by decide +kernel
theorem dL_law_222 : decode cL_law 222 = .ok (.iaload, 1) := by decide +kernel
theorem dL_law_223 : decode cL_law 223 = .ok (.aload_n 0, 1) := by decide +kernel
theorem dL_law_224 : decode cL_law 224 = .ok (.iload 5, 2) := by decide +kernel
theorem dL_law_226 : decode cL_law 226 = .ok (.iconst 2, 1) := by decide +kernel
theorem dL_law_227 : decode cL_law 227 = .ok (.iadd, 1) := by decide +kernel
theorem dL_law_228 : decode cL_law 228 = .ok (.iaload, 1) := by decide +kernel
theorem dL_law_229 : decode cL_law 229 = .ok (.aload_n 3, 1) := by decide +kernel
theorem dL_law_230 : decode cL_law 230 = .ok (.invokestatic 89, 3) := by decide +kernel
theorem dL_law_233 : decode cL_law 233 = .ok (.istore 6, 2) := by decide +kernel
theorem dL_law_235 : decode cL_law 235 = .ok (.aload_n 2, 1) := by decide +kernel
theorem dL_law_236 : decode cL_law 236 = .ok (.aload_n 0, 1) := by decide +kernel
theorem dL_law_237 : decode cL_law 237 = .ok (.iload 5, 2) := by decide +kernel
theorem dL_law_239 : decode cL_law 239 = .ok (.iconst 1, 1) := by decide +kernel
theorem dL_law_240 : decode cL_law 240 = .ok (.iadd, 1) := by decide +kernel
theorem dL_law_241 : decode cL_law 241 = .ok (.iaload, 1) := by decide +kernel
theorem dL_law_242 : decode cL_law 242 = .ok (.aload_n 0, 1) := by decide +kernel
theorem dL_law_243 : decode cL_law 243 = .ok (.iload 5, 2) := by decide +kernel
theorem dL_law_245 : decode cL_law 245 = .ok (.iconst 2, 1) := by decide +kernel
theorem dL_law_246 : decode cL_law 246 = .ok (.iadd, 1) := by decide +kernel
theorem dL_law_247 : decode cL_law 247 = .ok (.iaload, 1) := by decide +kernel
theorem dL_law_248 : decode cL_law 248 = .ok (.invokevirtual 92, 3) := by decide +kernel
theorem dL_law_251 : decode cL_law 251 = .ok (.istore 7, 2) := by decide +kernel
theorem dL_law_253 : decode cL_law 253 = .ok (.aload_n 2, 1) := by decide +kernel
theorem dL_law_254 : decode cL_law 254 = .ok (.invokevirtual 85, 3) := by decide +kernel
theorem dL_law_257 : decode cL_law 257 = .ok (.iload 6, 2) := by decide +kernel
theorem dL_law_259 : decode cL_law 259 = .ok (.if_icmp .eq 5, 3) := by decide +kernel
theorem dL_law_262 : decode cL_law 262 = .ok (.iconst 0, 1) := by decide +kernel
theorem dL_law_263 : decode cL_law 263 = .ok (.ireturn, 1) := by decide +kernel
theorem dL_law_264 : decode cL_law 264 = .ok (.iload 6, 2) := by decide +kernel
theorem dL_law_266 : decode cL_law 266 = .ok (.ifCond .ne 15, 3) := by decide +kernel
theorem dL_law_269 : decode cL_law 269 = .ok (.aload_n 3, 1) := by decide +kernel
theorem dL_law_270 : decode cL_law 270 = .ok (.iconst 0, 1) := by decide +kernel
theorem dL_law_271 : decode cL_law 271 = .ok (.laload, 1) := by decide +kernel
theorem dL_law_272 : decode cL_law 272 = .ok (.iload 7, 2) := by decide +kernel
theorem dL_law_274 : decode cL_law 274 = .ok (.i2l, 1) := by decide +kernel
theorem dL_law_275 : decode cL_law 275 = .ok (.lcmp, 1) := by decide +kernel
theorem dL_law_276 : decode cL_law 276 = .ok (.ifCond .eq 5, 3) := by decide +kernel
theorem dL_law_279 : decode cL_law 279 = .ok (.iconst 0, 1) := by decide +kernel
theorem dL_law_280 : decode cL_law 280 = .ok (.ireturn, 1) := by decide +kernel
theorem dL_law_281 : decode cL_law 281 = .ok (.goto 1154, 3) := by decide +kernel
theorem dL_law_284 : decode cL_law 284 = .ok (.aload_n 1, 1) := by decide +kernel
theorem dL_law_285 : decode cL_law 285 = .ok (.aload_n 0, 1) := by decide +kernel
theorem dL_law_286 : decode cL_law 286 = .ok (.iload 5, 2) := by decide +kernel
theorem dL_law_288 : decode cL_law 288 = .ok (.iconst 1, 1) := by decide +kernel
theorem dL_law_289 : decode cL_law 289 = .ok (.iadd, 1) := by decide +kernel
theorem dL_law_290 : decode cL_law 290 = .ok (.iaload, 1) := by decide +kernel
theorem dL_law_291 : decode cL_law 291 = .ok (.aload_n 0, 1) := by decide +kernel
theorem dL_law_292 : decode cL_law 292 = .ok (.iload 5, 2) := by decide +kernel
theorem dL_law_294 : decode cL_law 294 = .ok (.iconst 2, 1) := by decide +kernel
theorem dL_law_295 : decode cL_law 295 = .ok (.iadd, 1) := by decide +kernel
theorem dL_law_296 : decode cL_law 296 = .ok (.iaload, 1) := by decide +kernel
theorem dL_law_297 : decode cL_law 297 = .ok (.aload_n 3, 1) := by decide +kernel
theorem dL_law_298 : decode cL_law 298 = .ok (.invokestatic 93, 3) := by decide +kernel
theorem dL_law_301 : decode cL_law 301 = .ok (.istore 6, 2) := by decide +kernel
theorem dL_law_303 : decode cL_law 303 = .ok (.aload_n 2, 1) := by decide +kernel
theorem dL_law_304 : decode cL_law 304 = .ok (.aload_n 0, 1) := by decide +kernel
theorem dL_law_305 : decode cL_law 305 = .ok (.iload 5, 2) := by decide +kernel
theorem dL_law_307 : decode cL_law 307 = .ok (.iconst 1, 1) := by decide +kernel
theorem dL_law_308 : decode cL_law 308 = .ok (.iadd, 1) := by decide +kernel
theorem dL_law_309 : decode cL_law 309 = .ok (.iaload, 1) := by decide +kernel
theorem dL_law_310 : decode cL_law 310 = .ok (.aload_n 0, 1) := by decide +kernel
theorem dL_law_311 : decode cL_law 311 = .ok (.iload 5, 2) := by decide +kernel
theorem dL_law_313 : decode cL_law 313 = .ok (.iconst 2, 1) := by decide +kernel
theorem dL_law_314 : decode cL_law 314 = .ok (.iadd, 1) := by decide +kernel
theorem dL_law_315 : decode cL_law 315 = .ok (.iaload, 1) := by decide +kernel
theorem dL_law_316 : decode cL_law 316 = .ok (.invokevirtual 95, 3) := by decide +kernel
theorem dL_law_319 : decode cL_law 319 = .ok (.istore 7, 2) := by decide +kernel
theorem dL_law_321 : decode cL_law 321 = .ok (.aload_n 2, 1) := by decide +kernel
theorem dL_law_322 : decode cL_law 322 = .ok (.invokevirtual 85, 3) := by decide +kernel
theorem dL_law_325 : decode cL_law 325 = .ok (.iload 6, 2) := by decide +kernel
theorem dL_law_327 : decode cL_law 327 = .ok (.if_icmp .eq 5, 3) := by decide +kernel
theorem dL_law_330 : decode cL_law 330 = .ok (.iconst 0, 1) := by decide +kernel
theorem dL_law_331 : decode cL_law 331 = .ok (.ireturn, 1) := by decide +kernel
theorem dL_law_332 : decode cL_law 332 = .ok (.iload 6, 2) := by decide +kernel
theorem dL_law_334 : decode cL_law 334 = .ok (.ifCond .ne 15, 3) := by decide +kernel
theorem dL_law_337 : decode cL_law 337 = .ok (.aload_n 3, 1) := by decide +kernel
theorem dL_law_338 : decode cL_law 338 = .ok (.iconst 0, 1) := by decide +kernel
theorem dL_law_339 : decode cL_law 339 = .ok (.laload, 1) := by decide +kernel
theorem dL_law_340 : decode cL_law 340 = .ok (.iload 7, 2) := by decide +kernel
theorem dL_law_342 : decode cL_law 342 = .ok (.i2l, 1) := by decide +kernel
theorem dL_law_343 : decode cL_law 343 = .ok (.lcmp, 1) := by decide +kernel
theorem dL_law_344 : decode cL_law 344 = .ok (.ifCond .eq 5, 3) := by decide +kernel
theorem dL_law_347 : decode cL_law 347 = .ok (.iconst 0, 1) := by decide +kernel
theorem dL_law_348 : decode cL_law 348 = .ok (.ireturn, 1) := by decide +kernel
theorem dL_law_349 : decode cL_law 349 = .ok (.goto 1086, 3) := by decide +kernel
theorem dL_law_352 : decode cL_law 352 = .ok (.aload_n 1, 1) := by decide +kernel
theorem dL_law_353 : decode cL_law 353 = .ok (.aload_n 0, 1) := by decide +kernel
theorem dL_law_354 : decode cL_law 354 = .ok (.iload 5, 2) := by decide +kernel
theorem dL_law_356 : decode cL_law 356 = .ok (.iconst 1, 1) := by decide +kernel
theorem dL_law_357 : decode cL_law 357 = .ok (.iadd, 1) := by decide +kernel
theorem dL_law_358 : decode cL_law 358 = .ok (.iaload, 1) := by decide +kernel
theorem dL_law_359 : decode cL_law 359 = .ok (.aload_n 0, 1) := by decide +kernel
theorem dL_law_360 : decode cL_law 360 = .ok (.iload 5, 2) := by decide +kernel
theorem dL_law_362 : decode cL_law 362 = .ok (.iconst 2, 1) := by decide +kernel
theorem dL_law_363 : decode cL_law 363 = .ok (.iadd, 1) := by decide +kernel
theorem dL_law_364 : decode cL_law 364 = .ok (.iaload, 1) := by decide +kernel
theorem dL_law_365 : decode cL_law 365 = .ok (.aload_n 3, 1) := by decide +kernel
theorem dL_law_366 : decode cL_law 366 = .ok (.invokestatic 96, 3) := by decide +kernel
theorem dL_law_369 : decode cL_law 369 = .ok (.istore 6, 2) := by decide +kernel
theorem dL_law_371 : decode cL_law 371 = .ok (.aload_n 2, 1) := by decide +kernel
theorem dL_law_372 : decode cL_law 372 = .ok (.aload_n 0, 1) := by decide +kernel
theorem dL_law_373 : decode cL_law 373 = .ok (.iload 5, 2) := by decide +kernel
theorem dL_law_375 : decode cL_law 375 = .ok (.iconst 1, 1) := by decide +kernel
theorem dL_law_376 : decode cL_law 376 = .ok (.iadd, 1) := by decide +kernel
theorem dL_law_377 : decode cL_law 377 = .ok (.iaload, 1) := by decide +kernel
theorem dL_law_378 : decode cL_law 378 = .ok (.aload_n 0, 1) := by decide +kernel
theorem dL_law_379 : decode cL_law 379 = .ok (.iload 5, 2) := by decide +kernel
theorem dL_law_381 : decode cL_law 381 = .ok (.iconst 2, 1) := by decide +kernel
theorem dL_law_382 : decode cL_law 382 = .ok (.iadd, 1) := by decide +kernel
theorem dL_law_383 : decode cL_law 383 = .ok (.iaload, 1) := by decide +kernel
theorem dL_law_384 : decode cL_law 384 = .ok (.invokevirtual 98, 3) := by decide +kernel
theorem dL_law_387 : decode cL_law 387 = .ok (.istore 7, 2) := by decide +kernel
theorem dL_law_389 : decode cL_law 389 = .ok (.aload_n 2, 1) := by decide +kernel
theorem dL_law_390 : decode cL_law 390 = .ok (.invokevirtual 85, 3) := by decide +kernel
theorem dL_law_393 : decode cL_law 393 = .ok (.iload 6, 2) := by decide +kernel
theorem dL_law_395 : decode cL_law 395 = .ok (.if_icmp .eq 5, 3) := by decide +kernel
theorem dL_law_398 : decode cL_law 398 = .ok (.iconst 0, 1) := by decide +kernel
theorem dL_law_399 : decode cL_law 399 = .ok (.ireturn, 1) := by decide +kernel
theorem dL_law_400 : decode cL_law 400 = .ok (.iload 6, 2) := by decide +kernel
theorem dL_law_402 : decode cL_law 402 = .ok (.ifCond .ne 15, 3) := by decide +kernel
theorem dL_law_405 : decode cL_law 405 = .ok (.aload_n 3, 1) := by decide +kernel
theorem dL_law_406 : decode cL_law 406 = .ok (.iconst 0, 1) := by decide +kernel
theorem dL_law_407 : decode cL_law 407 = .ok (.laload, 1) := by decide +kernel
theorem dL_law_408 : decode cL_law 408 = .ok (.iload 7, 2) := by decide +kernel
theorem dL_law_410 : decode cL_law 410 = .ok (.i2l, 1) := by decide +kernel
theorem dL_law_411 : decode cL_law 411 = .ok (.lcmp, 1) := by decide +kernel
theorem dL_law_412 : decode cL_law 412 = .ok (.ifCond .eq 5, 3) := by decide +kernel
theorem dL_law_415 : decode cL_law 415 = .ok (.iconst 0, 1) := by decide +kernel
theorem dL_law_416 : decode cL_law 416 = .ok (.ireturn, 1) := by decide +kernel
theorem dL_law_417 : decode cL_law 417 = .ok (.goto 1018, 3) := by decide +kernel
theorem dL_law_420 : decode cL_law 420 = .ok (.aload_n 1, 1) := by decide +kernel
theorem dL_law_421 : decode cL_law 421 = .ok (.aload_n 0, 1) := by decide +kernel
theorem dL_law_422 : decode cL_law 422 = .ok (.iload 5, 2) := by decide +kernel
theorem dL_law_424 : decode cL_law 424 = .ok (.iconst 1, 1) := by decide +kernel
theorem dL_law_425 : decode cL_law 425 = .ok (.iadd, 1) := by decide +kernel
theorem dL_law_426 : decode cL_law 426 = .ok (.iaload, 1) := by decide +kernel
theorem dL_law_427 : decode cL_law 427 = .ok (.aload_n 0, 1) := by decide +kernel
theorem dL_law_428 : decode cL_law 428 = .ok (.iload 5, 2) := by decide +kernel
theorem dL_law_430 : decode cL_law 430 = .ok (.iconst 2, 1) := by decide +kernel
theorem dL_law_431 : decode cL_law 431 = .ok (.iadd, 1) := by decide +kernel
theorem dL_law_432 : decode cL_law 432 = .ok (.iaload, 1) := by decide +kernel
theorem dL_law_433 : decode cL_law 433 = .ok (.aload_n 3, 1) := by decide +kernel
theorem dL_law_434 : decode cL_law 434 = .ok (.invokestatic 99, 3) := by decide +kernel
theorem dL_law_437 : decode cL_law 437 = .ok (.istore 6, 2) := by decide +kernel
theorem dL_law_439 : decode cL_law 439 = .ok (.aload_n 2, 1) := by decide +kernel
theorem dL_law_440 : decode cL_law 440 = .ok (.aload_n 0, 1) := by decide +kernel
theorem dL_law_441 : decode cL_law 441 = .ok (.iload 5, 2) := by decide +kernel
theorem dL_law_443 : decode cL_law 443 = .ok (.iconst 1, 1) := by decide +kernel
theorem dL_law_444 : decode cL_law 444 = .ok (.iadd, 1) := by decide +kernel
theorem dL_law_445 : decode cL_law 445 = .ok (.iaload, 1) := by decide +kernel
theorem dL_law_446 : decode cL_law 446 = .ok (.aload_n 0, 1) := by decide +kernel
theorem dL_law_447 : decode cL_law 447 = .ok (.iload 5, 2) := by decide +kernel
theorem dL_law_449 : decode cL_law 449 = .ok (.iconst 2, 1) := by decide +kernel
theorem dL_law_450 : decode cL_law 450 = .ok (.iadd, 1) := by decide +kernel
theorem dL_law_451 : decode cL_law 451 = .ok (.iaload, 1) := by decide +kernel
theorem dL_law_452 : decode cL_law 452 = .ok (.invokevirtual 101, 3) := by decide +kernel
theorem dL_law_455 : decode cL_law 455 = .ok (.istore 7, 2) := by decide +kernel
theorem dL_law_457 : decode cL_law 457 = .ok (.aload_n 2, 1) := by decide +kernel
theorem dL_law_458 : decode cL_law 458 = .ok (.invokevirtual 85, 3) := by decide +kernel
theorem dL_law_461 : decode cL_law 461 = .ok (.iload 6, 2) := by decide +kernel
theorem dL_law_463 : decode cL_law 463 = .ok (.if_icmp .eq 5, 3) := by decide +kernel
theorem dL_law_466 : decode cL_law 466 = .ok (.iconst 0, 1) := by decide +kernel
theorem dL_law_467 : decode cL_law 467 = .ok (.ireturn, 1) := by decide +kernel
theorem dL_law_468 : decode cL_law 468 = .ok (.iload 6, 2) := by decide +kernel
theorem dL_law_470 : decode cL_law 470 = .ok (.ifCond .ne 15, 3) := by decide +kernel
theorem dL_law_473 : decode cL_law 473 = .ok (.aload_n 3, 1) := by decide +kernel
theorem dL_law_474 : decode cL_law 474 = .ok (.iconst 0, 1) := by decide +kernel
theorem dL_law_475 : decode cL_law 475 = .ok (.laload, 1) := by decide +kernel
theorem dL_law_476 : decode cL_law 476 = .ok (.iload 7, 2) := by decide +kernel
theorem dL_law_478 : decode cL_law 478 = .ok (.i2l, 1) := by decide +kernel
theorem dL_law_479 : decode cL_law 479 = .ok (.lcmp, 1) := by decide +kernel
theorem dL_law_480 : decode cL_law 480 = .ok (.ifCond .eq 5, 3) := by decide +kernel
theorem dL_law_483 : decode cL_law 483 = .ok (.iconst 0, 1) := by decide +kernel
theorem dL_law_484 : decode cL_law 484 = .ok (.ireturn, 1) := by decide +kernel
theorem dL_law_485 : decode cL_law 485 = .ok (.goto 950, 3) := by decide +kernel
theorem dL_law_488 : decode cL_law 488 = .ok (.aload_n 1, 1) := by decide +kernel
theorem dL_law_489 : decode cL_law 489 = .ok (.aload_n 0, 1) := by decide +kernel
theorem dL_law_490 : decode cL_law 490 = .ok (.iload 5, 2) := by decide +kernel
theorem dL_law_492 : decode cL_law 492 = .ok (.iconst 1, 1) := by decide +kernel
theorem dL_law_493 : decode cL_law 493 = .ok (.iadd, 1) := by decide +kernel
theorem dL_law_494 : decode cL_law 494 = .ok (.iaload, 1) := by decide +kernel
theorem dL_law_495 : decode cL_law 495 = .ok (.aload_n 0, 1) := by decide +kernel
theorem dL_law_496 : decode cL_law 496 = .ok (.iload 5, 2) := by decide +kernel
theorem dL_law_498 : decode cL_law 498 = .ok (.iconst 2, 1) := by decide +kernel
theorem dL_law_499 : decode cL_law 499 = .ok (.iadd, 1) := by decide +kernel
theorem dL_law_500 : decode cL_law 500 = .ok (.iaload, 1) := by decide +kernel
theorem dL_law_501 : decode cL_law 501 = .ok (.aload_n 3, 1) := by decide +kernel
theorem dL_law_502 : decode cL_law 502 = .ok (.invokestatic 102, 3) := by decide +kernel
theorem dL_law_505 : decode cL_law 505 = .ok (.istore 6, 2) := by decide +kernel
theorem dL_law_507 : decode cL_law 507 = .ok (.aload_n 2, 1) := by decide +kernel
theorem dL_law_508 : decode cL_law 508 = .ok (.aload_n 0, 1) := by decide +kernel
theorem dL_law_509 : decode cL_law 509 = .ok (.iload 5, 2) := by decide +kernel
theorem dL_law_511 : decode cL_law 511 = .ok (.iconst 1, 1) := by decide +kernel
theorem dL_law_512 : decode cL_law 512 = .ok (.iadd, 1) := by decide +kernel
theorem dL_law_513 : decode cL_law 513 = .ok (.iaload, 1) := by decide +kernel
theorem dL_law_514 : decode cL_law 514 = .ok (.aload_n 0, 1) := by decide +kernel
theorem dL_law_515 : decode cL_law 515 = .ok (.iload 5, 2) := by decide +kernel
theorem dL_law_517 : decode cL_law 517 = .ok (.iconst 2, 1) := by decide +kernel
theorem dL_law_518 : decode cL_law 518 = .ok (.iadd, 1) := by decide +kernel
theorem dL_law_519 : decode cL_law 519 = .ok (.iaload, 1) := by decide +kernel
theorem dL_law_520 : decode cL_law 520 = .ok (.invokevirtual 104, 3) := by decide +kernel
theorem dL_law_523 : decode cL_law 523 = .ok (.istore 7, 2) := by decide +kernel
theorem dL_law_525 : decode cL_law 525 = .ok (.aload_n 2, 1) := by decide +kernel
theorem dL_law_526 : decode cL_law 526 = .ok (.invokevirtual 85, 3) := by decide +kernel
theorem dL_law_529 : decode cL_law 529 = .ok (.iload 6, 2) := by decide +kernel
theorem dL_law_531 : decode cL_law 531 = .ok (.if_icmp .eq 5, 3) := by decide +kernel
theorem dL_law_534 : decode cL_law 534 = .ok (.iconst 0, 1) := by decide +kernel
theorem dL_law_535 : decode cL_law 535 = .ok (.ireturn, 1) := by decide +kernel
theorem dL_law_536 : decode cL_law 536 = .ok (.iload 6, 2) := by decide +kernel
theorem dL_law_538 : decode cL_law 538 = .ok (.ifCond .ne 15, 3) := by decide +kernel
theorem dL_law_541 : decode cL_law 541 = .ok (.aload_n 3, 1) := by decide +kernel
theorem dL_law_542 : decode cL_law 542 = .ok (.iconst 0, 1) := by decide +kernel
theorem dL_law_543 : decode cL_law 543 = .ok (.laload, 1) := by decide +kernel
theorem dL_law_544 : decode cL_law 544 = .ok (.iload 7, 2) := by decide +kernel
theorem dL_law_546 : decode cL_law 546 = .ok (.i2l, 1) := by decide +kernel
theorem dL_law_547 : decode cL_law 547 = .ok (.lcmp, 1) := by decide +kernel
theorem dL_law_548 : decode cL_law 548 = .ok (.ifCond .eq 5, 3) := by decide +kernel
theorem dL_law_551 : decode cL_law 551 = .ok (.iconst 0, 1) := by decide +kernel
theorem dL_law_552 : decode cL_law 552 = .ok (.ireturn, 1) := by decide +kernel
theorem dL_law_553 : decode cL_law 553 = .ok (.goto 882, 3) := by decide +kernel
theorem dL_law_556 : decode cL_law 556 = .ok (.aload_n 1, 1) := by decide +kernel
theorem dL_law_557 : decode cL_law 557 = .ok (.aload_n 0, 1) := by decide +kernel
theorem dL_law_558 : decode cL_law 558 = .ok (.iload 5, 2) := by decide +kernel
theorem dL_law_560 : decode cL_law 560 = .ok (.iconst 1, 1) := by decide +kernel
theorem dL_law_561 : decode cL_law 561 = .ok (.iadd, 1) := by decide +kernel
theorem dL_law_562 : decode cL_law 562 = .ok (.iaload, 1) := by decide +kernel
theorem dL_law_563 : decode cL_law 563 = .ok (.aload_n 0, 1) := by decide +kernel
theorem dL_law_564 : decode cL_law 564 = .ok (.iload 5, 2) := by decide +kernel
theorem dL_law_566 : decode cL_law 566 = .ok (.iconst 2, 1) := by decide +kernel
theorem dL_law_567 : decode cL_law 567 = .ok (.iadd, 1) := by decide +kernel
theorem dL_law_568 : decode cL_law 568 = .ok (.iaload, 1) := by decide +kernel
theorem dL_law_569 : decode cL_law 569 = .ok (.aload_n 3, 1) := by decide +kernel
theorem dL_law_570 : decode cL_law 570 = .ok (.invokestatic 105, 3) := by decide +kernel
theorem dL_law_573 : decode cL_law 573 = .ok (.istore 6, 2) := by decide +kernel
theorem dL_law_575 : decode cL_law 575 = .ok (.aload_n 2, 1) := by decide +kernel
theorem dL_law_576 : decode cL_law 576 = .ok (.aload_n 0, 1) := by decide +kernel
theorem dL_law_577 : decode cL_law 577 = .ok (.iload 5, 2) := by decide +kernel
theorem dL_law_579 : decode cL_law 579 = .ok (.iconst 1, 1) := by decide +kernel
theorem dL_law_580 : decode cL_law 580 = .ok (.iadd, 1) := by decide +kernel
theorem dL_law_581 : decode cL_law 581 = .ok (.iaload, 1) := by decide +kernel
theorem dL_law_582 : decode cL_law 582 = .ok (.aload_n 0, 1) := by decide +kernel
theorem dL_law_583 : decode cL_law 583 = .ok (.iload 5, 2) := by decide +kernel
theorem dL_law_585 : decode cL_law 585 = .ok (.iconst 2, 1) := by decide +kernel
theorem dL_law_586 : decode cL_law 586 = .ok (.iadd, 1) := by decide +kernel
theorem dL_law_587 : decode cL_law 587 = .ok (.iaload, 1) := by decide +kernel
theorem dL_law_588 : decode cL_law 588 = .ok (.invokevirtual 107, 3) := by decide +kernel
theorem dL_law_591 : decode cL_law 591 = .ok (.istore 7, 2) := by decide +kernel
theorem dL_law_593 : decode cL_law 593 = .ok (.aload_n 2, 1) := by decide +kernel
theorem dL_law_594 : decode cL_law 594 = .ok (.invokevirtual 85, 3) := by decide +kernel
theorem dL_law_597 : decode cL_law 597 = .ok (.iload 6, 2) := by decide +kernel
theorem dL_law_599 : decode cL_law 599 = .ok (.if_icmp .eq 5, 3) := by decide +kernel
theorem dL_law_602 : decode cL_law 602 = .ok (.iconst 0, 1) := by decide +kernel
theorem dL_law_603 : decode cL_law 603 = .ok (.ireturn, 1) := by decide +kernel
theorem dL_law_604 : decode cL_law 604 = .ok (.iload 6, 2) := by decide +kernel
theorem dL_law_606 : decode cL_law 606 = .ok (.ifCond .ne 15, 3) := by decide +kernel
theorem dL_law_609 : decode cL_law 609 = .ok (.aload_n 3, 1) := by decide +kernel
theorem dL_law_610 : decode cL_law 610 = .ok (.iconst 0, 1) := by decide +kernel
theorem dL_law_611 : decode cL_law 611 = .ok (.laload, 1) := by decide +kernel
theorem dL_law_612 : decode cL_law 612 = .ok (.iload 7, 2) := by decide +kernel
theorem dL_law_614 : decode cL_law 614 = .ok (.i2l, 1) := by decide +kernel
theorem dL_law_615 : decode cL_law 615 = .ok (.lcmp, 1) := by decide +kernel
theorem dL_law_616 : decode cL_law 616 = .ok (.ifCond .eq 5, 3) := by decide +kernel
theorem dL_law_619 : decode cL_law 619 = .ok (.iconst 0, 1) := by decide +kernel
theorem dL_law_620 : decode cL_law 620 = .ok (.ireturn, 1) := by decide +kernel
theorem dL_law_621 : decode cL_law 621 = .ok (.goto 814, 3) := by decide +kernel
theorem dL_law_624 : decode cL_law 624 = .ok (.aload_n 1, 1) := by decide +kernel
theorem dL_law_625 : decode cL_law 625 = .ok (.aload_n 0, 1) := by decide +kernel
theorem dL_law_626 : decode cL_law 626 = .ok (.iload 5, 2) := by decide +kernel
theorem dL_law_628 : decode cL_law 628 = .ok (.iconst 1, 1) := by decide +kernel
theorem dL_law_629 : decode cL_law 629 = .ok (.iadd, 1) := by decide +kernel
theorem dL_law_630 : decode cL_law 630 = .ok (.iaload, 1) := by decide +kernel
theorem dL_law_631 : decode cL_law 631 = .ok (.aload_n 0, 1) := by decide +kernel
theorem dL_law_632 : decode cL_law 632 = .ok (.iload 5, 2) := by decide +kernel
theorem dL_law_634 : decode cL_law 634 = .ok (.iconst 2, 1) := by decide +kernel
theorem dL_law_635 : decode cL_law 635 = .ok (.iadd, 1) := by decide +kernel
theorem dL_law_636 : decode cL_law 636 = .ok (.iaload, 1) := by decide +kernel
theorem dL_law_637 : decode cL_law 637 = .ok (.aload_n 0, 1) := by decide +kernel
theorem dL_law_638 : decode cL_law 638 = .ok (.iload 5, 2) := by decide +kernel
theorem dL_law_640 : decode cL_law 640 = .ok (.iconst 3, 1) := by decide +kernel
theorem dL_law_641 : decode cL_law 641 = .ok (.iadd, 1) := by decide +kernel
theorem dL_law_642 : decode cL_law 642 = .ok (.iaload, 1) := by decide +kernel
theorem dL_law_643 : decode cL_law 643 = .ok (.aload_n 3, 1) := by decide +kernel
theorem dL_law_644 : decode cL_law 644 = .ok (.invokestatic 108, 3) := by decide +kernel
theorem dL_law_647 : decode cL_law 647 = .ok (.istore 6, 2) := by decide +kernel
theorem dL_law_649 : decode cL_law 649 = .ok (.aload_n 2, 1) := by decide +kernel
theorem dL_law_650 : decode cL_law 650 = .ok (.aload_n 0, 1) := by decide +kernel
theorem dL_law_651 : decode cL_law 651 = .ok (.iload 5, 2) := by decide +kernel
theorem dL_law_653 : decode cL_law 653 = .ok (.iconst 1, 1) := by decide +kernel
theorem dL_law_654 : decode cL_law 654 = .ok (.iadd, 1) := by decide +kernel
theorem dL_law_655 : decode cL_law 655 = .ok (.iaload, 1) := by decide +kernel
theorem dL_law_656 : decode cL_law 656 = .ok (.aload_n 0, 1) := by decide +kernel
theorem dL_law_657 : decode cL_law 657 = .ok (.iload 5, 2) := by decide +kernel
theorem dL_law_659 : decode cL_law 659 = .ok (.iconst 2, 1) := by decide +kernel
theorem dL_law_660 : decode cL_law 660 = .ok (.iadd, 1) := by decide +kernel
theorem dL_law_661 : decode cL_law 661 = .ok (.iaload, 1) := by decide +kernel
theorem dL_law_662 : decode cL_law 662 = .ok (.aload_n 0, 1) := by decide +kernel
theorem dL_law_663 : decode cL_law 663 = .ok (.iload 5, 2) := by decide +kernel
theorem dL_law_665 : decode cL_law 665 = .ok (.iconst 3, 1) := by decide +kernel
theorem dL_law_666 : decode cL_law 666 = .ok (.iadd, 1) := by decide +kernel
theorem dL_law_667 : decode cL_law 667 = .ok (.iaload, 1) := by decide +kernel
theorem dL_law_668 : decode cL_law 668 = .ok (.invokevirtual 110, 3) := by decide +kernel
theorem dL_law_671 : decode cL_law 671 = .ok (.istore 7, 2) := by decide +kernel
theorem dL_law_673 : decode cL_law 673 = .ok (.aload_n 2, 1) := by decide +kernel
theorem dL_law_674 : decode cL_law 674 = .ok (.invokevirtual 85, 3) := by decide +kernel
theorem dL_law_677 : decode cL_law 677 = .ok (.iload 6, 2) := by decide +kernel
theorem dL_law_679 : decode cL_law 679 = .ok (.if_icmp .eq 5, 3) := by decide +kernel
theorem dL_law_682 : decode cL_law 682 = .ok (.iconst 0, 1) := by decide +kernel
theorem dL_law_683 : decode cL_law 683 = .ok (.ireturn, 1) := by decide +kernel
theorem dL_law_684 : decode cL_law 684 = .ok (.iload 6, 2) := by decide +kernel
theorem dL_law_686 : decode cL_law 686 = .ok (.ifCond .ne 15, 3) := by decide +kernel
theorem dL_law_689 : decode cL_law 689 = .ok (.aload_n 3, 1) := by decide +kernel
theorem dL_law_690 : decode cL_law 690 = .ok (.iconst 0, 1) := by decide +kernel
theorem dL_law_691 : decode cL_law 691 = .ok (.laload, 1) := by decide +kernel
theorem dL_law_692 : decode cL_law 692 = .ok (.iload 7, 2) := by decide +kernel
theorem dL_law_694 : decode cL_law 694 = .ok (.i2l, 1) := by decide +kernel
theorem dL_law_695 : decode cL_law 695 = .ok (.lcmp, 1) := by decide +kernel
theorem dL_law_696 : decode cL_law 696 = .ok (.ifCond .eq 5, 3) := by decide +kernel
theorem dL_law_699 : decode cL_law 699 = .ok (.iconst 0, 1) := by decide +kernel
theorem dL_law_700 : decode cL_law 700 = .ok (.ireturn, 1) := by decide +kernel
theorem dL_law_701 : decode cL_law 701 = .ok (.goto 734, 3) := by decide +kernel
theorem dL_law_704 : decode cL_law 704 = .ok (.aload_n 1, 1) := by decide +kernel
theorem dL_law_705 : decode cL_law 705 = .ok (.aload_n 0, 1) := by decide +kernel
theorem dL_law_706 : decode cL_law 706 = .ok (.iload 5, 2) := by decide +kernel
theorem dL_law_708 : decode cL_law 708 = .ok (.iconst 1, 1) := by decide +kernel
theorem dL_law_709 : decode cL_law 709 = .ok (.iadd, 1) := by decide +kernel
theorem dL_law_710 : decode cL_law 710 = .ok (.iaload, 1) := by decide +kernel
theorem dL_law_711 : decode cL_law 711 = .ok (.aload_n 0, 1) := by decide +kernel
theorem dL_law_712 : decode cL_law 712 = .ok (.iload 5, 2) := by decide +kernel
theorem dL_law_714 : decode cL_law 714 = .ok (.iconst 2, 1) := by decide +kernel
theorem dL_law_715 : decode cL_law 715 = .ok (.iadd, 1) := by decide +kernel
theorem dL_law_716 : decode cL_law 716 = .ok (.iaload, 1) := by decide +kernel
theorem dL_law_717 : decode cL_law 717 = .ok (.aload_n 0, 1) := by decide +kernel
theorem dL_law_718 : decode cL_law 718 = .ok (.iload 5, 2) := by decide +kernel
theorem dL_law_720 : decode cL_law 720 = .ok (.iconst 3, 1) := by decide +kernel
theorem dL_law_721 : decode cL_law 721 = .ok (.iadd, 1) := by decide +kernel
theorem dL_law_722 : decode cL_law 722 = .ok (.iaload, 1) := by decide +kernel
theorem dL_law_723 : decode cL_law 723 = .ok (.aload_n 3, 1) := by decide +kernel
theorem dL_law_724 : decode cL_law 724 = .ok (.invokestatic 111, 3) := by decide +kernel
theorem dL_law_727 : decode cL_law 727 = .ok (.istore 6, 2) := by decide +kernel
theorem dL_law_729 : decode cL_law 729 = .ok (.aload_n 2, 1) := by decide +kernel
theorem dL_law_730 : decode cL_law 730 = .ok (.aload_n 0, 1) := by decide +kernel
theorem dL_law_731 : decode cL_law 731 = .ok (.iload 5, 2) := by decide +kernel
theorem dL_law_733 : decode cL_law 733 = .ok (.iconst 1, 1) := by decide +kernel
theorem dL_law_734 : decode cL_law 734 = .ok (.iadd, 1) := by decide +kernel
theorem dL_law_735 : decode cL_law 735 = .ok (.iaload, 1) := by decide +kernel
theorem dL_law_736 : decode cL_law 736 = .ok (.aload_n 0, 1) := by decide +kernel
theorem dL_law_737 : decode cL_law 737 = .ok (.iload 5, 2) := by decide +kernel
theorem dL_law_739 : decode cL_law 739 = .ok (.iconst 2, 1) := by decide +kernel
theorem dL_law_740 : decode cL_law 740 = .ok (.iadd, 1) := by decide +kernel
theorem dL_law_741 : decode cL_law 741 = .ok (.iaload, 1) := by decide +kernel
theorem dL_law_742 : decode cL_law 742 = .ok (.aload_n 0, 1) := by decide +kernel
theorem dL_law_743 : decode cL_law 743 = .ok (.iload 5, 2) := by decide +kernel
theorem dL_law_745 : decode cL_law 745 = .ok (.iconst 3, 1) := by decide +kernel
theorem dL_law_746 : decode cL_law 746 = .ok (.iadd, 1) := by decide +kernel
theorem dL_law_747 : decode cL_law 747 = .ok (.iaload, 1) := by decide +kernel
theorem dL_law_748 : decode cL_law 748 = .ok (.invokevirtual 113, 3) := by decide +kernel
theorem dL_law_751 : decode cL_law 751 = .ok (.istore 7, 2) := by decide +kernel
theorem dL_law_753 : decode cL_law 753 = .ok (.aload_n 2, 1) := by decide +kernel
theorem dL_law_754 : decode cL_law 754 = .ok (.invokevirtual 85, 3) := by decide +kernel
theorem dL_law_757 : decode cL_law 757 = .ok (.iload 6, 2) := by decide +kernel
theorem dL_law_759 : decode cL_law 759 = .ok (.if_icmp .eq 5, 3) := by decide +kernel
theorem dL_law_762 : decode cL_law 762 = .ok (.iconst 0, 1) := by decide +kernel
theorem dL_law_763 : decode cL_law 763 = .ok (.ireturn, 1) := by decide +kernel
theorem dL_law_764 : decode cL_law 764 = .ok (.iload 6, 2) := by decide +kernel
theorem dL_law_766 : decode cL_law 766 = .ok (.ifCond .ne 15, 3) := by decide +kernel
theorem dL_law_769 : decode cL_law 769 = .ok (.aload_n 3, 1) := by decide +kernel
theorem dL_law_770 : decode cL_law 770 = .ok (.iconst 0, 1) := by decide +kernel
theorem dL_law_771 : decode cL_law 771 = .ok (.laload, 1) := by decide +kernel
theorem dL_law_772 : decode cL_law 772 = .ok (.iload 7, 2) := by decide +kernel
theorem dL_law_774 : decode cL_law 774 = .ok (.i2l, 1) := by decide +kernel
theorem dL_law_775 : decode cL_law 775 = .ok (.lcmp, 1) := by decide +kernel
theorem dL_law_776 : decode cL_law 776 = .ok (.ifCond .eq 5, 3) := by decide +kernel
theorem dL_law_779 : decode cL_law 779 = .ok (.iconst 0, 1) := by decide +kernel
theorem dL_law_780 : decode cL_law 780 = .ok (.ireturn, 1) := by decide +kernel
theorem dL_law_781 : decode cL_law 781 = .ok (.goto 654, 3) := by decide +kernel
theorem dL_law_784 : decode cL_law 784 = .ok (.aload_n 1, 1) := by decide +kernel
theorem dL_law_785 : decode cL_law 785 = .ok (.aload_n 0, 1) := by decide +kernel
theorem dL_law_786 : decode cL_law 786 = .ok (.iload 5, 2) := by decide +kernel
theorem dL_law_788 : decode cL_law 788 = .ok (.iconst 1, 1) := by decide +kernel
theorem dL_law_789 : decode cL_law 789 = .ok (.iadd, 1) := by decide +kernel
theorem dL_law_790 : decode cL_law 790 = .ok (.iaload, 1) := by decide +kernel
theorem dL_law_791 : decode cL_law 791 = .ok (.aload_n 0, 1) := by decide +kernel
theorem dL_law_792 : decode cL_law 792 = .ok (.iload 5, 2) := by decide +kernel
theorem dL_law_794 : decode cL_law 794 = .ok (.iconst 2, 1) := by decide +kernel
theorem dL_law_795 : decode cL_law 795 = .ok (.iadd, 1) := by decide +kernel
theorem dL_law_796 : decode cL_law 796 = .ok (.iaload, 1) := by decide +kernel
theorem dL_law_797 : decode cL_law 797 = .ok (.aload_n 0, 1) := by decide +kernel
theorem dL_law_798 : decode cL_law 798 = .ok (.iload 5, 2) := by decide +kernel
theorem dL_law_800 : decode cL_law 800 = .ok (.iconst 3, 1) := by decide +kernel
theorem dL_law_801 : decode cL_law 801 = .ok (.iadd, 1) := by decide +kernel
theorem dL_law_802 : decode cL_law 802 = .ok (.iaload, 1) := by decide +kernel
theorem dL_law_803 : decode cL_law 803 = .ok (.ifCond .eq 7, 3) := by decide +kernel
theorem dL_law_806 : decode cL_law 806 = .ok (.iconst 1, 1) := by decide +kernel
theorem dL_law_807 : decode cL_law 807 = .ok (.goto 4, 3) := by decide +kernel
theorem dL_law_810 : decode cL_law 810 = .ok (.iconst 0, 1) := by decide +kernel
theorem dL_law_811 : decode cL_law 811 = .ok (.aload_n 3, 1) := by decide +kernel
theorem dL_law_812 : decode cL_law 812 = .ok (.invokestatic 114, 3) := by decide +kernel
theorem dL_law_815 : decode cL_law 815 = .ok (.istore 6, 2) := by decide +kernel
theorem dL_law_817 : decode cL_law 817 = .ok (.aload_n 2, 1) := by decide +kernel
theorem dL_law_818 : decode cL_law 818 = .ok (.aload_n 0, 1) := by decide +kernel
theorem dL_law_819 : decode cL_law 819 = .ok (.iload 5, 2) := by decide +kernel
theorem dL_law_821 : decode cL_law 821 = .ok (.iconst 1, 1) := by decide +kernel
theorem dL_law_822 : decode cL_law 822 = .ok (.iadd, 1) := by decide +kernel
theorem dL_law_823 : decode cL_law 823 = .ok (.iaload, 1) := by decide +kernel
theorem dL_law_824 : decode cL_law 824 = .ok (.aload_n 0, 1) := by decide +kernel
theorem dL_law_825 : decode cL_law 825 = .ok (.iload 5, 2) := by decide +kernel
theorem dL_law_827 : decode cL_law 827 = .ok (.iconst 2, 1) := by decide +kernel
theorem dL_law_828 : decode cL_law 828 = .ok (.iadd, 1) := by decide +kernel
theorem dL_law_829 : decode cL_law 829 = .ok (.iaload, 1) := by decide +kernel
theorem dL_law_830 : decode cL_law 830 = .ok (.aload_n 0, 1) := by decide +kernel
theorem dL_law_831 : decode cL_law 831 = .ok (.iload 5, 2) := by decide +kernel
theorem dL_law_833 : decode cL_law 833 = .ok (.iconst 3, 1) := by decide +kernel
theorem dL_law_834 : decode cL_law 834 = .ok (.iadd, 1) := by decide +kernel
theorem dL_law_835 : decode cL_law 835 = .ok (.iaload, 1) := by decide +kernel
theorem dL_law_836 : decode cL_law 836 = .ok (.ifCond .eq 7, 3) := by decide +kernel
theorem dL_law_839 : decode cL_law 839 = .ok (.iconst 1, 1) := by decide +kernel
theorem dL_law_840 : decode cL_law 840 = .ok (.goto 4, 3) := by decide +kernel
theorem dL_law_843 : decode cL_law 843 = .ok (.iconst 0, 1) := by decide +kernel
theorem dL_law_844 : decode cL_law 844 = .ok (.invokevirtual 117, 3) := by decide +kernel
theorem dL_law_847 : decode cL_law 847 = .ok (.istore 7, 2) := by decide +kernel
theorem dL_law_849 : decode cL_law 849 = .ok (.aload_n 2, 1) := by decide +kernel
theorem dL_law_850 : decode cL_law 850 = .ok (.invokevirtual 85, 3) := by decide +kernel
theorem dL_law_853 : decode cL_law 853 = .ok (.iload 6, 2) := by decide +kernel
theorem dL_law_855 : decode cL_law 855 = .ok (.if_icmp .eq 5, 3) := by decide +kernel
theorem dL_law_858 : decode cL_law 858 = .ok (.iconst 0, 1) := by decide +kernel
theorem dL_law_859 : decode cL_law 859 = .ok (.ireturn, 1) := by decide +kernel
theorem dL_law_860 : decode cL_law 860 = .ok (.iload 6, 2) := by decide +kernel
theorem dL_law_862 : decode cL_law 862 = .ok (.ifCond .ne 15, 3) := by decide +kernel
theorem dL_law_865 : decode cL_law 865 = .ok (.aload_n 3, 1) := by decide +kernel
theorem dL_law_866 : decode cL_law 866 = .ok (.iconst 0, 1) := by decide +kernel
theorem dL_law_867 : decode cL_law 867 = .ok (.laload, 1) := by decide +kernel
theorem dL_law_868 : decode cL_law 868 = .ok (.iload 7, 2) := by decide +kernel
theorem dL_law_870 : decode cL_law 870 = .ok (.i2l, 1) := by decide +kernel
theorem dL_law_871 : decode cL_law 871 = .ok (.lcmp, 1) := by decide +kernel
theorem dL_law_872 : decode cL_law 872 = .ok (.ifCond .eq 5, 3) := by decide +kernel
theorem dL_law_875 : decode cL_law 875 = .ok (.iconst 0, 1) := by decide +kernel
theorem dL_law_876 : decode cL_law 876 = .ok (.ireturn, 1) := by decide +kernel
theorem dL_law_877 : decode cL_law 877 = .ok (.goto 558, 3) := by decide +kernel
theorem dL_law_880 : decode cL_law 880 = .ok (.aload_n 1, 1) := by decide +kernel
theorem dL_law_881 : decode cL_law 881 = .ok (.aload_n 0, 1) := by decide +kernel
theorem dL_law_882 : decode cL_law 882 = .ok (.iload 5, 2) := by decide +kernel
theorem dL_law_884 : decode cL_law 884 = .ok (.iconst 1, 1) := by decide +kernel
theorem dL_law_885 : decode cL_law 885 = .ok (.iadd, 1) := by decide +kernel
theorem dL_law_886 : decode cL_law 886 = .ok (.iaload, 1) := by decide +kernel
theorem dL_law_887 : decode cL_law 887 = .ok (.aload_n 0, 1) := by decide +kernel
theorem dL_law_888 : decode cL_law 888 = .ok (.iload 5, 2) := by decide +kernel
theorem dL_law_890 : decode cL_law 890 = .ok (.iconst 2, 1) := by decide +kernel
theorem dL_law_891 : decode cL_law 891 = .ok (.iadd, 1) := by decide +kernel
theorem dL_law_892 : decode cL_law 892 = .ok (.iaload, 1) := by decide +kernel
theorem dL_law_893 : decode cL_law 893 = .ok (.aload_n 3, 1) := by decide +kernel
theorem dL_law_894 : decode cL_law 894 = .ok (.invokestatic 118, 3) := by decide +kernel
theorem dL_law_897 : decode cL_law 897 = .ok (.istore 6, 2) := by decide +kernel
theorem dL_law_899 : decode cL_law 899 = .ok (.aload_n 2, 1) := by decide +kernel
theorem dL_law_900 : decode cL_law 900 = .ok (.aload_n 0, 1) := by decide +kernel
theorem dL_law_901 : decode cL_law 901 = .ok (.iload 5, 2) := by decide +kernel
theorem dL_law_903 : decode cL_law 903 = .ok (.iconst 1, 1) := by decide +kernel
theorem dL_law_904 : decode cL_law 904 = .ok (.iadd, 1) := by decide +kernel
theorem dL_law_905 : decode cL_law 905 = .ok (.iaload, 1) := by decide +kernel
theorem dL_law_906 : decode cL_law 906 = .ok (.aload_n 0, 1) := by decide +kernel
theorem dL_law_907 : decode cL_law 907 = .ok (.iload 5, 2) := by decide +kernel
theorem dL_law_909 : decode cL_law 909 = .ok (.iconst 2, 1) := by decide +kernel
theorem dL_law_910 : decode cL_law 910 = .ok (.iadd, 1) := by decide +kernel
theorem dL_law_911 : decode cL_law 911 = .ok (.iaload, 1) := by decide +kernel
theorem dL_law_912 : decode cL_law 912 = .ok (.invokevirtual 120, 3) := by decide +kernel
theorem dL_law_915 : decode cL_law 915 = .ok (.istore 7, 2) := by decide +kernel
theorem dL_law_917 : decode cL_law 917 = .ok (.aload_n 2, 1) := by decide +kernel
theorem dL_law_918 : decode cL_law 918 = .ok (.invokevirtual 85, 3) := by decide +kernel
theorem dL_law_921 : decode cL_law 921 = .ok (.iload 6, 2) := by decide +kernel
theorem dL_law_923 : decode cL_law 923 = .ok (.if_icmp .eq 5, 3) := by decide +kernel
theorem dL_law_926 : decode cL_law 926 = .ok (.iconst 0, 1) := by decide +kernel
theorem dL_law_927 : decode cL_law 927 = .ok (.ireturn, 1) := by decide +kernel
theorem dL_law_928 : decode cL_law 928 = .ok (.iload 6, 2) := by decide +kernel
theorem dL_law_930 : decode cL_law 930 = .ok (.ifCond .ne 15, 3) := by decide +kernel
theorem dL_law_933 : decode cL_law 933 = .ok (.aload_n 3, 1) := by decide +kernel
theorem dL_law_934 : decode cL_law 934 = .ok (.iconst 0, 1) := by decide +kernel
theorem dL_law_935 : decode cL_law 935 = .ok (.laload, 1) := by decide +kernel
theorem dL_law_936 : decode cL_law 936 = .ok (.iload 7, 2) := by decide +kernel
theorem dL_law_938 : decode cL_law 938 = .ok (.i2l, 1) := by decide +kernel
theorem dL_law_939 : decode cL_law 939 = .ok (.lcmp, 1) := by decide +kernel
theorem dL_law_940 : decode cL_law 940 = .ok (.ifCond .eq 5, 3) := by decide +kernel
theorem dL_law_943 : decode cL_law 943 = .ok (.iconst 0, 1) := by decide +kernel
theorem dL_law_944 : decode cL_law 944 = .ok (.ireturn, 1) := by decide +kernel
theorem dL_law_945 : decode cL_law 945 = .ok (.goto 490, 3) := by decide +kernel
theorem dL_law_948 : decode cL_law 948 = .ok (.aload_n 1, 1) := by decide +kernel
theorem dL_law_949 : decode cL_law 949 = .ok (.aload_n 0, 1) := by decide +kernel
theorem dL_law_950 : decode cL_law 950 = .ok (.iload 5, 2) := by decide +kernel
theorem dL_law_952 : decode cL_law 952 = .ok (.iconst 1, 1) := by decide +kernel
theorem dL_law_953 : decode cL_law 953 = .ok (.iadd, 1) := by decide +kernel
theorem dL_law_954 : decode cL_law 954 = .ok (.iaload, 1) := by decide +kernel
theorem dL_law_955 : decode cL_law 955 = .ok (.aload_n 0, 1) := by decide +kernel
theorem dL_law_956 : decode cL_law 956 = .ok (.iload 5, 2) := by decide +kernel
theorem dL_law_958 : decode cL_law 958 = .ok (.iconst 2, 1) := by decide +kernel
theorem dL_law_959 : decode cL_law 959 = .ok (.iadd, 1) := by decide +kernel
theorem dL_law_960 : decode cL_law 960 = .ok (.iaload, 1) := by decide +kernel
theorem dL_law_961 : decode cL_law 961 = .ok (.aload_n 0, 1) := by decide +kernel
theorem dL_law_962 : decode cL_law 962 = .ok (.iload 5, 2) := by decide +kernel
theorem dL_law_964 : decode cL_law 964 = .ok (.iconst 3, 1) := by decide +kernel
theorem dL_law_965 : decode cL_law 965 = .ok (.iadd, 1) := by decide +kernel
theorem dL_law_966 : decode cL_law 966 = .ok (.iaload, 1) := by decide +kernel
theorem dL_law_967 : decode cL_law 967 = .ok (.aload_n 0, 1) := by decide +kernel
theorem dL_law_968 : decode cL_law 968 = .ok (.iload 5, 2) := by decide +kernel
theorem dL_law_970 : decode cL_law 970 = .ok (.iconst 4, 1) := by decide +kernel
theorem dL_law_971 : decode cL_law 971 = .ok (.iadd, 1) := by decide +kernel
theorem dL_law_972 : decode cL_law 972 = .ok (.iaload, 1) := by decide +kernel
theorem dL_law_973 : decode cL_law 973 = .ok (.aload_n 3, 1) := by decide +kernel
theorem dL_law_974 : decode cL_law 974 = .ok (.invokestatic 121, 3) := by decide +kernel
theorem dL_law_977 : decode cL_law 977 = .ok (.istore 6, 2) := by decide +kernel
theorem dL_law_979 : decode cL_law 979 = .ok (.aload_n 2, 1) := by decide +kernel
theorem dL_law_980 : decode cL_law 980 = .ok (.aload_n 0, 1) := by decide +kernel
theorem dL_law_981 : decode cL_law 981 = .ok (.iload 5, 2) := by decide +kernel
theorem dL_law_983 : decode cL_law 983 = .ok (.iconst 1, 1) := by decide +kernel
theorem dL_law_984 : decode cL_law 984 = .ok (.iadd, 1) := by decide +kernel
theorem dL_law_985 : decode cL_law 985 = .ok (.iaload, 1) := by decide +kernel
theorem dL_law_986 : decode cL_law 986 = .ok (.aload_n 0, 1) := by decide +kernel
theorem dL_law_987 : decode cL_law 987 = .ok (.iload 5, 2) := by decide +kernel
theorem dL_law_989 : decode cL_law 989 = .ok (.iconst 2, 1) := by decide +kernel
theorem dL_law_990 : decode cL_law 990 = .ok (.iadd, 1) := by decide +kernel
theorem dL_law_991 : decode cL_law 991 = .ok (.iaload, 1) := by decide +kernel
theorem dL_law_992 : decode cL_law 992 = .ok (.aload_n 0, 1) := by decide +kernel
theorem dL_law_993 : decode cL_law 993 = .ok (.iload 5, 2) := by decide +kernel
theorem dL_law_995 : decode cL_law 995 = .ok (.iconst 3, 1) := by decide +kernel
theorem dL_law_996 : decode cL_law 996 = .ok (.iadd, 1) := by decide +kernel
theorem dL_law_997 : decode cL_law 997 = .ok (.iaload, 1) := by decide +kernel
theorem dL_law_998 : decode cL_law 998 = .ok (.aload_n 0, 1) := by decide +kernel
theorem dL_law_999 : decode cL_law 999 = .ok (.iload 5, 2) := by decide +kernel
theorem dL_law_1001 : decode cL_law 1001 = .ok (.iconst 4, 1) := by decide +kernel
theorem dL_law_1002 : decode cL_law 1002 = .ok (.iadd, 1) := by decide +kernel
theorem dL_law_1003 : decode cL_law 1003 = .ok (.iaload, 1) := by decide +kernel
theorem dL_law_1004 : decode cL_law 1004 = .ok (.invokevirtual 124, 3) := by decide +kernel
theorem dL_law_1007 : decode cL_law 1007 = .ok (.istore 7, 2) := by decide +kernel
theorem dL_law_1009 : decode cL_law 1009 = .ok (.aload_n 2, 1) := by decide +kernel
theorem dL_law_1010 : decode cL_law 1010 = .ok (.invokevirtual 85, 3) := by decide +kernel
theorem dL_law_1013 : decode cL_law 1013 = .ok (.iload 6, 2) := by decide +kernel
theorem dL_law_1015 : decode cL_law 1015 = .ok (.if_icmp .eq 5, 3) := by decide +kernel
theorem dL_law_1018 : decode cL_law 1018 = .ok (.iconst 0, 1) := by decide +kernel
theorem dL_law_1019 : decode cL_law 1019 = .ok (.ireturn, 1) := by decide +kernel
theorem dL_law_1020 : decode cL_law 1020 = .ok (.iload 6, 2) := by decide +kernel
theorem dL_law_1022 : decode cL_law 1022 = .ok (.ifCond .ne 15, 3) := by decide +kernel
theorem dL_law_1025 : decode cL_law 1025 = .ok (.aload_n 3, 1) := by decide +kernel
theorem dL_law_1026 : decode cL_law 1026 = .ok (.iconst 0, 1) := by decide +kernel
theorem dL_law_1027 : decode cL_law 1027 = .ok (.laload, 1) := by decide +kernel
theorem dL_law_1028 : decode cL_law 1028 = .ok (.iload 7, 2) := by decide +kernel
theorem dL_law_1030 : decode cL_law 1030 = .ok (.i2l, 1) := by decide +kernel
theorem dL_law_1031 : decode cL_law 1031 = .ok (.lcmp, 1) := by decide +kernel
theorem dL_law_1032 : decode cL_law 1032 = .ok (.ifCond .eq 5, 3) := by decide +kernel
theorem dL_law_1035 : decode cL_law 1035 = .ok (.iconst 0, 1) := by decide +kernel
theorem dL_law_1036 : decode cL_law 1036 = .ok (.ireturn, 1) := by decide +kernel
theorem dL_law_1037 : decode cL_law 1037 = .ok (.goto 398, 3) := by decide +kernel
theorem dL_law_1040 : decode cL_law 1040 = .ok (.aload_n 1, 1) := by decide +kernel
theorem dL_law_1041 : decode cL_law 1041 = .ok (.aload_n 0, 1) := by decide +kernel
theorem dL_law_1042 : decode cL_law 1042 = .ok (.iload 5, 2) := by decide +kernel
theorem dL_law_1044 : decode cL_law 1044 = .ok (.iconst 1, 1) := by decide +kernel
theorem dL_law_1045 : decode cL_law 1045 = .ok (.iadd, 1) := by decide +kernel
theorem dL_law_1046 : decode cL_law 1046 = .ok (.iaload, 1) := by decide +kernel
theorem dL_law_1047 : decode cL_law 1047 = .ok (.aload_n 0, 1) := by decide +kernel
theorem dL_law_1048 : decode cL_law 1048 = .ok (.iload 5, 2) := by decide +kernel
theorem dL_law_1050 : decode cL_law 1050 = .ok (.iconst 2, 1) := by decide +kernel
theorem dL_law_1051 : decode cL_law 1051 = .ok (.iadd, 1) := by decide +kernel
theorem dL_law_1052 : decode cL_law 1052 = .ok (.iaload, 1) := by decide +kernel
theorem dL_law_1053 : decode cL_law 1053 = .ok (.aload_n 3, 1) := by decide +kernel
theorem dL_law_1054 : decode cL_law 1054 = .ok (.invokestatic 125, 3) := by decide +kernel
theorem dL_law_1057 : decode cL_law 1057 = .ok (.istore 6, 2) := by decide +kernel
theorem dL_law_1059 : decode cL_law 1059 = .ok (.aload_n 2, 1) := by decide +kernel
theorem dL_law_1060 : decode cL_law 1060 = .ok (.aload_n 0, 1) := by decide +kernel
theorem dL_law_1061 : decode cL_law 1061 = .ok (.iload 5, 2) := by decide +kernel
theorem dL_law_1063 : decode cL_law 1063 = .ok (.iconst 1, 1) := by decide +kernel
theorem dL_law_1064 : decode cL_law 1064 = .ok (.iadd, 1) := by decide +kernel
theorem dL_law_1065 : decode cL_law 1065 = .ok (.iaload, 1) := by decide +kernel
theorem dL_law_1066 : decode cL_law 1066 = .ok (.aload_n 0, 1) := by decide +kernel
theorem dL_law_1067 : decode cL_law 1067 = .ok (.iload 5, 2) := by decide +kernel
theorem dL_law_1069 : decode cL_law 1069 = .ok (.iconst 2, 1) := by decide +kernel
theorem dL_law_1070 : decode cL_law 1070 = .ok (.iadd, 1) := by decide +kernel
theorem dL_law_1071 : decode cL_law 1071 = .ok (.iaload, 1) := by decide +kernel
theorem dL_law_1072 : decode cL_law 1072 = .ok (.invokevirtual 127, 3) := by decide +kernel
theorem dL_law_1075 : decode cL_law 1075 = .ok (.istore 7, 2) := by decide +kernel
theorem dL_law_1077 : decode cL_law 1077 = .ok (.aload_n 2, 1) := by decide +kernel
theorem dL_law_1078 : decode cL_law 1078 = .ok (.invokevirtual 85, 3) := by decide +kernel
theorem dL_law_1081 : decode cL_law 1081 = .ok (.iload 6, 2) := by decide +kernel
theorem dL_law_1083 : decode cL_law 1083 = .ok (.if_icmp .eq 5, 3) := by decide +kernel
theorem dL_law_1086 : decode cL_law 1086 = .ok (.iconst 0, 1) := by decide +kernel
theorem dL_law_1087 : decode cL_law 1087 = .ok (.ireturn, 1) := by decide +kernel
theorem dL_law_1088 : decode cL_law 1088 = .ok (.iload 6, 2) := by decide +kernel
theorem dL_law_1090 : decode cL_law 1090 = .ok (.ifCond .ne 15, 3) := by decide +kernel
theorem dL_law_1093 : decode cL_law 1093 = .ok (.aload_n 3, 1) := by decide +kernel
theorem dL_law_1094 : decode cL_law 1094 = .ok (.iconst 0, 1) := by decide +kernel
theorem dL_law_1095 : decode cL_law 1095 = .ok (.laload, 1) := by decide +kernel
theorem dL_law_1096 : decode cL_law 1096 = .ok (.iload 7, 2) := by decide +kernel
theorem dL_law_1098 : decode cL_law 1098 = .ok (.i2l, 1) := by decide +kernel
theorem dL_law_1099 : decode cL_law 1099 = .ok (.lcmp, 1) := by decide +kernel
theorem dL_law_1100 : decode cL_law 1100 = .ok (.ifCond .eq 5, 3) := by decide +kernel
theorem dL_law_1103 : decode cL_law 1103 = .ok (.iconst 0, 1) := by decide +kernel
theorem dL_law_1104 : decode cL_law 1104 = .ok (.ireturn, 1) := by decide +kernel
theorem dL_law_1105 : decode cL_law 1105 = .ok (.goto 330, 3) := by decide +kernel
theorem dL_law_1108 : decode cL_law 1108 = .ok (.aload_n 1, 1) := by decide +kernel
theorem dL_law_1109 : decode cL_law 1109 = .ok (.aload_n 0, 1) := by decide +kernel
theorem dL_law_1110 : decode cL_law 1110 = .ok (.iload 5, 2) := by decide +kernel
theorem dL_law_1112 : decode cL_law 1112 = .ok (.iconst 1, 1) := by decide +kernel
theorem dL_law_1113 : decode cL_law 1113 = .ok (.iadd, 1) := by decide +kernel
theorem dL_law_1114 : decode cL_law 1114 = .ok (.iaload, 1) := by decide +kernel
theorem dL_law_1115 : decode cL_law 1115 = .ok (.aload_n 3, 1) := by decide +kernel
theorem dL_law_1116 : decode cL_law 1116 = .ok (.invokestatic 128, 3) := by decide +kernel
theorem dL_law_1119 : decode cL_law 1119 = .ok (.istore 6, 2) := by decide +kernel
theorem dL_law_1121 : decode cL_law 1121 = .ok (.aload_n 2, 1) := by decide +kernel
theorem dL_law_1122 : decode cL_law 1122 = .ok (.aload_n 0, 1) := by decide +kernel
theorem dL_law_1123 : decode cL_law 1123 = .ok (.iload 5, 2) := by decide +kernel
theorem dL_law_1125 : decode cL_law 1125 = .ok (.iconst 1, 1) := by decide +kernel
theorem dL_law_1126 : decode cL_law 1126 = .ok (.iadd, 1) := by decide +kernel
theorem dL_law_1127 : decode cL_law 1127 = .ok (.iaload, 1) := by decide +kernel
theorem dL_law_1128 : decode cL_law 1128 = .ok (.invokevirtual 131, 3) := by decide +kernel
theorem dL_law_1131 : decode cL_law 1131 = .ok (.istore 7, 2) := by decide +kernel
theorem dL_law_1133 : decode cL_law 1133 = .ok (.aload_n 2, 1) := by decide +kernel
theorem dL_law_1134 : decode cL_law 1134 = .ok (.invokevirtual 85, 3) := by decide +kernel
theorem dL_law_1137 : decode cL_law 1137 = .ok (.iload 6, 2) := by decide +kernel
theorem dL_law_1139 : decode cL_law 1139 = .ok (.if_icmp .eq 5, 3) := by decide +kernel
theorem dL_law_1142 : decode cL_law 1142 = .ok (.iconst 0, 1) := by decide +kernel
theorem dL_law_1143 : decode cL_law 1143 = .ok (.ireturn, 1) := by decide +kernel
theorem dL_law_1144 : decode cL_law 1144 = .ok (.iload 6, 2) := by decide +kernel
theorem dL_law_1146 : decode cL_law 1146 = .ok (.ifCond .ne 15, 3) := by decide +kernel
theorem dL_law_1149 : decode cL_law 1149 = .ok (.aload_n 3, 1) := by decide +kernel
theorem dL_law_1150 : decode cL_law 1150 = .ok (.iconst 0, 1) := by decide +kernel
theorem dL_law_1151 : decode cL_law 1151 = .ok (.laload, 1) := by decide +kernel
theorem dL_law_1152 : decode cL_law 1152 = .ok (.iload 7, 2) := by decide +kernel
theorem dL_law_1154 : decode cL_law 1154 = .ok (.i2l, 1) := by decide +kernel
theorem dL_law_1155 : decode cL_law 1155 = .ok (.lcmp, 1) := by decide +kernel
theorem dL_law_1156 : decode cL_law 1156 = .ok (.ifCond .eq 5, 3) := by decide +kernel
theorem dL_law_1159 : decode cL_law 1159 = .ok (.iconst 0, 1) := by decide +kernel
theorem dL_law_1160 : decode cL_law 1160 = .ok (.ireturn, 1) := by decide +kernel
theorem dL_law_1161 : decode cL_law 1161 = .ok (.goto 274, 3) := by decide +kernel
theorem dL_law_1164 : decode cL_law 1164 = .ok (.aload_n 1, 1) := by decide +kernel
theorem dL_law_1165 : decode cL_law 1165 = .ok (.aload_n 0, 1) := by decide +kernel
theorem dL_law_1166 : decode cL_law 1166 = .ok (.iload 5, 2) := by decide +kernel
theorem dL_law_1168 : decode cL_law 1168 = .ok (.iconst 1, 1) := by decide +kernel
theorem dL_law_1169 : decode cL_law 1169 = .ok (.iadd, 1) := by decide +kernel
theorem dL_law_1170 : decode cL_law 1170 = .ok (.iaload, 1) := by decide +kernel
theorem dL_law_1171 : decode cL_law 1171 = .ok (.aload_n 0, 1) := by decide +kernel
theorem dL_law_1172 : decode cL_law 1172 = .ok (.iload 5, 2) := by decide +kernel
theorem dL_law_1174 : decode cL_law 1174 = .ok (.iconst 2, 1) := by decide +kernel
theorem dL_law_1175 : decode cL_law 1175 = .ok (.iadd, 1) := by decide +kernel
theorem dL_law_1176 : decode cL_law 1176 = .ok (.iaload, 1) := by decide +kernel
theorem dL_law_1177 : decode cL_law 1177 = .ok (.aload_n 3, 1) := by decide +kernel
theorem dL_law_1178 : decode cL_law 1178 = .ok (.invokestatic 132, 3) := by decide +kernel
theorem dL_law_1181 : decode cL_law 1181 = .ok (.istore 6, 2) := by decide +kernel
theorem dL_law_1183 : decode cL_law 1183 = .ok (.aload_n 2, 1) := by decide +kernel
theorem dL_law_1184 : decode cL_law 1184 = .ok (.aload_n 0, 1) := by decide +kernel
theorem dL_law_1185 : decode cL_law 1185 = .ok (.iload 5, 2) := by decide +kernel
theorem dL_law_1187 : decode cL_law 1187 = .ok (.iconst 1, 1) := by decide +kernel
theorem dL_law_1188 : decode cL_law 1188 = .ok (.iadd, 1) := by decide +kernel
theorem dL_law_1189 : decode cL_law 1189 = .ok (.iaload, 1) := by decide +kernel
theorem dL_law_1190 : decode cL_law 1190 = .ok (.aload_n 0, 1) := by decide +kernel
theorem dL_law_1191 : decode cL_law 1191 = .ok (.iload 5, 2) := by decide +kernel
theorem dL_law_1193 : decode cL_law 1193 = .ok (.iconst 2, 1) := by decide +kernel
theorem dL_law_1194 : decode cL_law 1194 = .ok (.iadd, 1) := by decide +kernel
theorem dL_law_1195 : decode cL_law 1195 = .ok (.iaload, 1) := by decide +kernel
theorem dL_law_1196 : decode cL_law 1196 = .ok (.invokevirtual 134, 3) := by decide +kernel
theorem dL_law_1199 : decode cL_law 1199 = .ok (.istore 7, 2) := by decide +kernel
theorem dL_law_1201 : decode cL_law 1201 = .ok (.aload_n 2, 1) := by decide +kernel
theorem dL_law_1202 : decode cL_law 1202 = .ok (.invokevirtual 85, 3) := by decide +kernel
theorem dL_law_1205 : decode cL_law 1205 = .ok (.iload 6, 2) := by decide +kernel
theorem dL_law_1207 : decode cL_law 1207 = .ok (.if_icmp .eq 5, 3) := by decide +kernel
theorem dL_law_1210 : decode cL_law 1210 = .ok (.iconst 0, 1) := by decide +kernel
theorem dL_law_1211 : decode cL_law 1211 = .ok (.ireturn, 1) := by decide +kernel
theorem dL_law_1212 : decode cL_law 1212 = .ok (.iload 6, 2) := by decide +kernel
theorem dL_law_1214 : decode cL_law 1214 = .ok (.ifCond .ne 15, 3) := by decide +kernel
theorem dL_law_1217 : decode cL_law 1217 = .ok (.aload_n 3, 1) := by decide +kernel
theorem dL_law_1218 : decode cL_law 1218 = .ok (.iconst 0, 1) := by decide +kernel
theorem dL_law_1219 : decode cL_law 1219 = .ok (.laload, 1) := by decide +kernel
theorem dL_law_1220 : decode cL_law 1220 = .ok (.iload 7, 2) := by decide +kernel
theorem dL_law_1222 : decode cL_law 1222 = .ok (.i2l, 1) := by decide +kernel
theorem dL_law_1223 : decode cL_law 1223 = .ok (.lcmp, 1) := by decide +kernel
theorem dL_law_1224 : decode cL_law 1224 = .ok (.ifCond .eq 5, 3) := by decide +kernel
theorem dL_law_1227 : decode cL_law 1227 = .ok (.iconst 0, 1) := by decide +kernel
theorem dL_law_1228 : decode cL_law 1228 = .ok (.ireturn, 1) := by decide +kernel
theorem dL_law_1229 : decode cL_law 1229 = .ok (.goto 206, 3) := by decide +kernel
theorem dL_law_1232 : decode cL_law 1232 = .ok (.aload_n 1, 1) := by decide +kernel
theorem dL_law_1233 : decode cL_law 1233 = .ok (.aload_n 0, 1) := by decide +kernel
theorem dL_law_1234 : decode cL_law 1234 = .ok (.iload 5, 2) := by decide +kernel
theorem dL_law_1236 : decode cL_law 1236 = .ok (.iconst 1, 1) := by decide +kernel
theorem dL_law_1237 : decode cL_law 1237 = .ok (.iadd, 1) := by decide +kernel
theorem dL_law_1238 : decode cL_law 1238 = .ok (.iaload, 1) := by decide +kernel
theorem dL_law_1239 : decode cL_law 1239 = .ok (.aload_n 3, 1) := by decide +kernel
theorem dL_law_1240 : decode cL_law 1240 = .ok (.invokestatic 135, 3) := by decide +kernel
theorem dL_law_1243 : decode cL_law 1243 = .ok (.istore 6, 2) := by decide +kernel
theorem dL_law_1245 : decode cL_law 1245 = .ok (.aload_n 2, 1) := by decide +kernel
theorem dL_law_1246 : decode cL_law 1246 = .ok (.aload_n 0, 1) := by decide +kernel
theorem dL_law_1247 : decode cL_law 1247 = .ok (.iload 5, 2) := by decide +kernel
theorem dL_law_1249 : decode cL_law 1249 = .ok (.iconst 1, 1) := by decide +kernel
theorem dL_law_1250 : decode cL_law 1250 = .ok (.iadd, 1) := by decide +kernel
theorem dL_law_1251 : decode cL_law 1251 = .ok (.iaload, 1) := by decide +kernel
theorem dL_law_1252 : decode cL_law 1252 = .ok (.invokevirtual 137, 3) := by decide +kernel
theorem dL_law_1255 : decode cL_law 1255 = .ok (.istore 7, 2) := by decide +kernel
theorem dL_law_1257 : decode cL_law 1257 = .ok (.aload_n 2, 1) := by decide +kernel
theorem dL_law_1258 : decode cL_law 1258 = .ok (.invokevirtual 85, 3) := by decide +kernel
theorem dL_law_1261 : decode cL_law 1261 = .ok (.iload 6, 2) := by decide +kernel
theorem dL_law_1263 : decode cL_law 1263 = .ok (.if_icmp .eq 5, 3) := by decide +kernel
theorem dL_law_1266 : decode cL_law 1266 = .ok (.iconst 0, 1) := by decide +kernel
theorem dL_law_1267 : decode cL_law 1267 = .ok (.ireturn, 1) := by decide +kernel
theorem dL_law_1268 : decode cL_law 1268 = .ok (.iload 6, 2) := by decide +kernel
theorem dL_law_1270 : decode cL_law 1270 = .ok (.ifCond .ne 15, 3) := by decide +kernel
theorem dL_law_1273 : decode cL_law 1273 = .ok (.aload_n 3, 1) := by decide +kernel
theorem dL_law_1274 : decode cL_law 1274 = .ok (.iconst 0, 1) := by decide +kernel
theorem dL_law_1275 : decode cL_law 1275 = .ok (.laload, 1) := by decide +kernel
theorem dL_law_1276 : decode cL_law 1276 = .ok (.iload 7, 2) := by decide +kernel
theorem dL_law_1278 : decode cL_law 1278 = .ok (.i2l, 1) := by decide +kernel
theorem dL_law_1279 : decode cL_law 1279 = .ok (.lcmp, 1) := by decide +kernel
theorem dL_law_1280 : decode cL_law 1280 = .ok (.ifCond .eq 5, 3) := by decide +kernel
theorem dL_law_1283 : decode cL_law 1283 = .ok (.iconst 0, 1) := by decide +kernel
theorem dL_law_1284 : decode cL_law 1284 = .ok (.ireturn, 1) := by decide +kernel
theorem dL_law_1285 : decode cL_law 1285 = .ok (.goto 150, 3) := by decide +kernel
theorem dL_law_1288 : decode cL_law 1288 = .ok (.aload_n 1, 1) := by decide +kernel
theorem dL_law_1289 : decode cL_law 1289 = .ok (.aload_n 0, 1) := by decide +kernel
theorem dL_law_1290 : decode cL_law 1290 = .ok (.iload 5, 2) := by decide +kernel
theorem dL_law_1292 : decode cL_law 1292 = .ok (.iconst 1, 1) := by decide +kernel
theorem dL_law_1293 : decode cL_law 1293 = .ok (.iadd, 1) := by decide +kernel
theorem dL_law_1294 : decode cL_law 1294 = .ok (.iaload, 1) := by decide +kernel
theorem dL_law_1295 : decode cL_law 1295 = .ok (.aload_n 3, 1) := by decide +kernel
theorem dL_law_1296 : decode cL_law 1296 = .ok (.invokestatic 138, 3) := by decide +kernel
theorem dL_law_1299 : decode cL_law 1299 = .ok (.istore 6, 2) := by decide +kernel
theorem dL_law_1301 : decode cL_law 1301 = .ok (.aload_n 2, 1) := by decide +kernel
theorem dL_law_1302 : decode cL_law 1302 = .ok (.aload_n 0, 1) := by decide +kernel
theorem dL_law_1303 : decode cL_law 1303 = .ok (.iload 5, 2) := by decide +kernel
theorem dL_law_1305 : decode cL_law 1305 = .ok (.iconst 1, 1) := by decide +kernel
theorem dL_law_1306 : decode cL_law 1306 = .ok (.iadd, 1) := by decide +kernel
theorem dL_law_1307 : decode cL_law 1307 = .ok (.iaload, 1) := by decide +kernel
theorem dL_law_1308 : decode cL_law 1308 = .ok (.invokevirtual 140, 3) := by decide +kernel
theorem dL_law_1311 : decode cL_law 1311 = .ok (.istore 7, 2) := by decide +kernel
theorem dL_law_1313 : decode cL_law 1313 = .ok (.aload_n 2, 1) := by decide +kernel
theorem dL_law_1314 : decode cL_law 1314 = .ok (.invokevirtual 85, 3) := by decide +kernel
theorem dL_law_1317 : decode cL_law 1317 = .ok (.iload 6, 2) := by decide +kernel
theorem dL_law_1319 : decode cL_law 1319 = .ok (.if_icmp .eq 5, 3) := by decide +kernel
theorem dL_law_1322 : decode cL_law 1322 = .ok (.iconst 0, 1) := by decide +kernel
theorem dL_law_1323 : decode cL_law 1323 = .ok (.ireturn, 1) := by decide +kernel
theorem dL_law_1324 : decode cL_law 1324 = .ok (.iload 6, 2) := by decide +kernel
theorem dL_law_1326 : decode cL_law 1326 = .ok (.ifCond .ne 15, 3) := by decide +kernel
theorem dL_law_1329 : decode cL_law 1329 = .ok (.aload_n 3, 1) := by decide +kernel
theorem dL_law_1330 : decode cL_law 1330 = .ok (.iconst 0, 1) := by decide +kernel
theorem dL_law_1331 : decode cL_law 1331 = .ok (.laload, 1) := by decide +kernel
theorem dL_law_1332 : decode cL_law 1332 = .ok (.iload 7, 2) := by decide +kernel
theorem dL_law_1334 : decode cL_law 1334 = .ok (.i2l, 1) := by decide +kernel
theorem dL_law_1335 : decode cL_law 1335 = .ok (.lcmp, 1) := by decide +kernel
theorem dL_law_1336 : decode cL_law 1336 = .ok (.ifCond .eq 5, 3) := by decide +kernel
theorem dL_law_1339 : decode cL_law 1339 = .ok (.iconst 0, 1) := by decide +kernel
theorem dL_law_1340 : decode cL_law 1340 = .ok (.ireturn, 1) := by decide +kernel
theorem dL_law_1341 : decode cL_law 1341 = .ok (.goto 94, 3) := by decide +kernel
theorem dL_law_1344 : decode cL_law 1344 = .ok (.aload_n 1, 1) := by decide +kernel
theorem dL_law_1345 : decode cL_law 1345 = .ok (.aload_n 0, 1) := by decide +kernel
theorem dL_law_1346 : decode cL_law 1346 = .ok (.iload 5, 2) := by decide +kernel
theorem dL_law_1348 : decode cL_law 1348 = .ok (.iconst 1, 1) := by decide +kernel
theorem dL_law_1349 : decode cL_law 1349 = .ok (.iadd, 1) := by decide +kernel
theorem dL_law_1350 : decode cL_law 1350 = .ok (.iaload, 1) := by decide +kernel
theorem dL_law_1351 : decode cL_law 1351 = .ok (.aload 4, 2) := by decide +kernel
theorem dL_law_1353 : decode cL_law 1353 = .ok (.invokestatic 141, 3) := by decide +kernel
theorem dL_law_1356 : decode cL_law 1356 = .ok (.istore 6, 2) := by decide +kernel
theorem dL_law_1358 : decode cL_law 1358 = .ok (.aload_n 2, 1) := by decide +kernel
theorem dL_law_1359 : decode cL_law 1359 = .ok (.aload_n 0, 1) := by decide +kernel
theorem dL_law_1360 : decode cL_law 1360 = .ok (.iload 5, 2) := by decide +kernel
theorem dL_law_1362 : decode cL_law 1362 = .ok (.iconst 1, 1) := by decide +kernel
theorem dL_law_1363 : decode cL_law 1363 = .ok (.iadd, 1) := by decide +kernel
theorem dL_law_1364 : decode cL_law 1364 = .ok (.iaload, 1) := by decide +kernel
theorem dL_law_1365 : decode cL_law 1365 = .ok (.invokevirtual 144, 3) := by decide +kernel
theorem dL_law_1368 : decode cL_law 1368 = .ok (.dstore 7, 2) := by decide +kernel
theorem dL_law_1370 : decode cL_law 1370 = .ok (.aload_n 2, 1) := by decide +kernel
theorem dL_law_1371 : decode cL_law 1371 = .ok (.invokevirtual 85, 3) := by decide +kernel
theorem dL_law_1374 : decode cL_law 1374 = .ok (.iload 6, 2) := by decide +kernel
theorem dL_law_1376 : decode cL_law 1376 = .ok (.if_icmp .eq 5, 3) := by decide +kernel
theorem dL_law_1379 : decode cL_law 1379 = .ok (.iconst 0, 1) := by decide +kernel
theorem dL_law_1380 : decode cL_law 1380 = .ok (.ireturn, 1) := by decide +kernel
theorem dL_law_1381 : decode cL_law 1381 = .ok (.iload 6, 2) := by decide +kernel
theorem dL_law_1383 : decode cL_law 1383 = .ok (.ifCond .ne 35, 3) := by decide +kernel
theorem dL_law_1386 : decode cL_law 1386 = .ok (.aload 4, 2) := by decide +kernel
theorem dL_law_1388 : decode cL_law 1388 = .ok (.iconst 0, 1) := by decide +kernel
theorem dL_law_1389 : decode cL_law 1389 = .ok (.daload, 1) := by decide +kernel
theorem dL_law_1390 : decode cL_law 1390 = .ok (.dload 7, 2) := by decide +kernel
theorem dL_law_1392 : decode cL_law 1392 = .ok (.dcmp .l, 1) := by decide +kernel
theorem dL_law_1393 : decode cL_law 1393 = .ok (.ifCond .eq 25, 3) := by decide +kernel
theorem dL_law_1396 : decode cL_law 1396 = .ok (.aload 4, 2) := by decide +kernel
theorem dL_law_1398 : decode cL_law 1398 = .ok (.iconst 0, 1) := by decide +kernel
theorem dL_law_1399 : decode cL_law 1399 = .ok (.daload, 1) := by decide +kernel
theorem dL_law_1400 : decode cL_law 1400 = .ok (.aload 4, 2) := by decide +kernel
theorem dL_law_1402 : decode cL_law 1402 = .ok (.iconst 0, 1) := by decide +kernel
theorem dL_law_1403 : decode cL_law 1403 = .ok (.daload, 1) := by decide +kernel
theorem dL_law_1404 : decode cL_law 1404 = .ok (.dcmp .l, 1) := by decide +kernel
theorem dL_law_1405 : decode cL_law 1405 = .ok (.ifCond .eq 11, 3) := by decide +kernel
theorem dL_law_1408 : decode cL_law 1408 = .ok (.dload 7, 2) := by decide +kernel
theorem dL_law_1410 : decode cL_law 1410 = .ok (.dload 7, 2) := by decide +kernel
theorem dL_law_1412 : decode cL_law 1412 = .ok (.dcmp .l, 1) := by decide +kernel
theorem dL_law_1413 : decode cL_law 1413 = .ok (.ifCond .ne 5, 3) := by decide +kernel
theorem dL_law_1416 : decode cL_law 1416 = .ok (.iconst 0, 1) := by decide +kernel
theorem dL_law_1417 : decode cL_law 1417 = .ok (.ireturn, 1) := by decide +kernel
theorem dL_law_1418 : decode cL_law 1418 = .ok (.goto 17, 3) := by decide +kernel
theorem dL_law_1421 : decode cL_law 1421 = .ok (.aload_n 1, 1) := by decide +kernel
theorem dL_law_1422 : decode cL_law 1422 = .ok (.invokevirtual 145, 3) := by decide +kernel
theorem dL_law_1425 : decode cL_law 1425 = .ok (.aload_n 2, 1) := by decide +kernel
theorem dL_law_1426 : decode cL_law 1426 = .ok (.invokevirtual 149, 3) := by decide +kernel
theorem dL_law_1429 : decode cL_law 1429 = .ok (.lcmp, 1) := by decide +kernel
theorem dL_law_1430 : decode cL_law 1430 = .ok (.ifCond .eq 5, 3) := by decide +kernel
theorem dL_law_1433 : decode cL_law 1433 = .ok (.iconst 0, 1) := by decide +kernel
theorem dL_law_1434 : decode cL_law 1434 = .ok (.ireturn, 1) := by decide +kernel
theorem dL_law_1435 : decode cL_law 1435 = .ok (.iinc 5 5, 3) := by decide +kernel
theorem dL_law_1438 : decode cL_law 1438 = .ok (.goto (-1410), 3) := by decide +kernel
theorem dL_law_1441 : decode cL_law 1441 = .ok (.iconst 1, 1) := by decide +kernel
theorem dL_law_1442 : decode cL_law 1442 = .ok (.ireturn, 1) := by decide +kernel
end
section
/-! THE WORLD: 33 cells. D holds it all: classes and slots (D.1 0..3, D.2 0..3), the array classes (D.1 10 int, 11 long, 12 double), the addresses (D.2 200), the strings' cells (D.2 100). -/
/-- the address of the cell k -/
def ad_ (D : va_G) (k : Nat) : Nat := D.2 200 k
def g_sa (D : va_G) (k : Nat) : Nat := D.2 100 k
def g_cI (D : va_G) : ClassId := D.1 10
def g_cL (D : va_G) : ClassId := D.1 11
def g_cD (D : va_G) : ClassId := D.1 12
def g_tys (D : va_G) : List (ClassId × FieldType) := [(g_cI D, .int), (g_cL D, .long), (g_cD D, .double)]
def g_W (D : va_G) (σ : Nat → va_E) : va_W := (List.range 33).map (fun k => (ad_ D k, σ k))
theorem g_at {D : va_G} {σ : Nat → va_E} {k : Nat} {e : va_E} (hk : k < 33) (h : σ k = e) : (g_W D σ)[k]? = some (ad_ D k, e) := by
  simp [g_W, hk, h]
theorem g_of {D : va_G} {σ : Nat → va_E} {k : Nat} {q : Nat × va_E} (h : (g_W D σ)[k]? = some q) : k < 33 ∧ q = (ad_ D k, σ k) := by
  by_cases hk : k < 33
  · rw [g_at hk rfl] at h
    exact ⟨hk, (Option.some.inj h).symm⟩
  · have : (g_W D σ)[k]? = none := by simp [g_W]; omega
    rw [this] at h; cases h
theorem g_set {D : va_G} {σ : Nat → va_E} {k : Nat} {e : va_E} : (g_W D σ).set k (ad_ D k, e) = g_W D (va_up σ k e) := by
  apply List.ext_getElem?
  intro i
  by_cases hi : i < 33
  · rw [g_at hi rfl]
    by_cases hik : k = i
    · subst hik
      rw [List.getElem?_set_self (by simp [g_W]; exact hi)]
      simp [va_up]
    · rw [List.getElem?_set_ne hik, g_at hi rfl]
      simp [va_up, Ne.symm hik]
  · rw [List.getElem?_eq_none (by simp [g_W]; omega), List.getElem?_eq_none (by simp [g_W]; omega)]
/-- the addresses are apart -/
def g_AD (D : va_G) : Prop := ∀ i j, i < 33 → j < 33 → ad_ D i = ad_ D j → i = j
/-- what a method may change: the world's cells and new ones -/
def g_A (D : va_G) (sz : Nat) : Nat → Prop := fun q => (∃ k, k < 33 ∧ q = ad_ D k) ∨ sz ≤ q
theorem g_D {D : va_G} {σ : Nat → va_E} {A : Nat → Prop} (h : g_AD D) (hA : ∀ k, k < 33 → A (ad_ D k)) : va_D A (g_W D σ) := by
  refine ⟨fun i j p q hi hj hpq => ?_, fun k q hk => ?_⟩
  · obtain ⟨h1, rfl⟩ := g_of hi
    obtain ⟨h2, rfl⟩ := g_of hj
    exact h i j h1 h2 hpq
  · obtain ⟨h1, rfl⟩ := g_of hk
    exact hA k h1
theorem g_Ds {D : va_G} {σ : Nat → va_E} {sz : Nat} (h : g_AD D) : va_D (g_A D sz) (g_W D σ) := g_D h (fun k hk => Or.inl ⟨k, hk, rfl⟩)
theorem g_Asz {D : va_G} {sz : Nat} : ∀ q, sz ≤ q → g_A D sz q := fun _ h => Or.inr h
theorem g_Amono {D : va_G} {a b : Nat} (h : a ≤ b) : ∀ q, g_A D b q → g_A D a q := fun _ hq => hq.elim Or.inl (fun h2 => Or.inr (Nat.le_trans h h2))
/-! THE MACHINE'S TABLES -/
def g_WA : List Cond := lw_tbl.filter goodWord
theorem g_mem {w : Cond} (i : Nat) (h : lw_tbl[i]? = some w ∧ goodWord w = true) : w ∈ g_WA := List.mem_filter.mpr ⟨List.mem_of_getElem? h.1, h.2⟩
def g_E0 : String := "java/lang/IndexOutOfBoundsException"
def g_E1 : String := "java/lang/IllegalArgumentException"
def g_E2 : String := "java/lang/IllegalStateException"
def g_NL : List Cond := [.methodLinkNest RX0 81 yX2_write RX2, .methodLinkNest RX0 56 yX2_read RX2, .methodLinkNest RX1 22 yX2_read RX2, .methodLinkNest RX0 64 yX2_firstUnlikeBit RX2, .methodLinkNest RX0 77 yX2_hasBit RX2, .methodLinkNest RX1 63 yX2_firstUnlikeBit RX2, .methodLinkNest RX1 43 yX2_write RX2, .methodLinkNest RX2 11 yX1_init RX2, .methodLinkNest RX2 24 yX0_init RX2, .castable g_E0 g_E0, .castable g_E1 g_E1, .castable g_E2 g_E2]
def g_SL : List (Nat × String) := [(121, "low is greater than high"), (182, "there is no such number"), (186, "that is not a name"), (188, "these are not miles"), (190, "the wood has no village"), (53, "the wood is full"), (62, "there is no such village"), (77, "these are too many for one wood"), (92, "the other wood has a village")]
def g_CL : List (String × String) := [(g_E0, g_E1), (g_E0, g_E2), (g_E1, g_E0), (g_E1, g_E2), (g_E2, g_E0), (g_E2, g_E1)]
/-- what holds of the tables, in every method -/
def g_EV (D : va_G) (U : State) : Prop := va_K D vwCl (g_tys D) U ∧ (∀ w ∈ g_WA, w.before #[] U = true) ∧ (∀ w ∈ g_NL, va_Nw w U) ∧ (∀ q ∈ g_SL, vk_R RX2 q.1 q.2 (g_sa D q.1) U) ∧ ∀ q ∈ g_CL, va_Nc q.1 q.2 U
theorem g_good {w : Cond} (h : w ∈ g_WA) : (w.onTables && w.keeps) = true ∨ ∃ ty, w = .arrayClass ty := good_of_word (List.mem_filter.mp h).2
theorem g_NLwarm {s U : State} (hW : s.WarmedH U.vm) {w : Cond} (hw : w ∈ g_NL) (h : va_Nw w s) : va_Nw w U := by
  simp only [g_NL, List.mem_cons, List.not_mem_nil, or_false] at hw
  rcases hw with rfl | rfl | rfl | rfl | rfl | rfl | rfl | rfl | rfl | rfl | rfl | rfl
  iterate 9 exact va_Nw.warmM hW h
  iterate 3 exact va_Nw.warmC hW h
theorem g_EV.warm {D : va_G} {s U : State} (hW : s.WarmedH U.vm) (h : g_EV D s) : g_EV D U :=
  ⟨va_K.moved hW.alike h.1, fun w hw => word_at hW (g_good hw) (h.2.1 w hw), fun w hw => g_NLwarm hW hw (h.2.2.1 w hw), fun q hq => vk_R.warm hW (h.2.2.2.1 q hq), fun q hq => va_Nc.moved hW.alike (h.2.2.2.2 q hq)⟩
theorem g_EV.hts {D : va_G} {s : State} {args : Array Value} (h : g_EV D s) : ∀ w ∈ g_WA, w.before args s = true := fun w hw => word_at (State.WarmedH.refl s) (g_good hw) (h.2.1 w hw)
def g_EZ (A : Nat → Prop) (U : State) (H : Heap) : Prop := vx_Zq Bundle.tN "UNASSIGNED_STACK" Bundle.steD A U H ∧ vx_Zq Bundle.tN "SUPPRESSED_SENTINEL" Bundle.listD A U H
theorem g_EZ.call {D : va_G} {s U : State} {H : Heap} {locs : List Loc} (hW : s.WarmedH U.vm) (hU : U.heap = H) (hS : va_S (g_A D s.heap.size) s.heap H locs) (h : g_EZ (g_A D s.heap.size) s s.heap) : g_EZ (g_A D H.size) U U.heap := by
  subst hU
  exact ⟨vx_Zq.narrow (vx_Zq.moved hW.alike (vx_Zq.kept h.1 hS.2.1)) (g_Amono hS.1), vx_Zq.narrow (vx_Zq.moved hW.alike (vx_Zq.kept h.2 hS.2.1)) (g_Amono hS.1)⟩
/-! CONTRACTS -/
def g_Pre (D : va_G) (σ : Nat → va_E) (sz : Nat) (U : State) : Prop := U.heap.size = sz ∧ va_P D vwCl (g_W D σ) U.heap ∧ g_EV D U ∧ g_EZ (g_A D sz) U U.heap
def g_Q (D : va_G) (post : Option Value → (Nat → va_E) → Prop) (A : Nat → Prop) : Array Value → State → Outcome → State → Prop := fun _ st oc t => (∃ (v : Option Value) (σ' : Nat → va_E), oc = .returned v ∧ post v σ' ∧ va_P D vwCl (g_W D σ') t.heap) ∧ va_F A st t
/-- y, called with av in the world σ, returns, and post tells its answer and the world behind it -/
def g_M (l : Launch) (D : va_G) (y : MethodName) (cc : ByteArray) (nL : Nat) (ret : Option FieldType) (rm : Room) (av : List Value) (σ : Nat → va_E) (post : Option Value → (Nat → va_E) → Prop) : Prop :=
  ∀ sz : Nat, Met l y [Cond.code y cc nL ret] rm (va_Pc av (g_Pre D σ sz)) (g_Q D post (g_A D sz)) rm.cells rm.slots (g_A D sz)
theorem g_blind {D : va_G} {σ : Nat → va_E} {sz : Nat} {av : List Value} : FrameBlind (va_Pc av (g_Pre D σ sz)) := by
  intro a U g mk h
  obtain ⟨h0, h1, h2, h3, h4⟩ := h
  have hW : U.WarmedH (U.calling g mk a).vm := State.WarmedH.refl U
  exact ⟨h0, h1, h2, g_EV.warm hW h3, vx_Zq.moved (Vm.Alike.refl _) h4.1, vx_Zq.moved (Vm.Alike.refl _) h4.2⟩
/-- a world handed to a callee -/
theorem g_pre {D : va_G} {s U : State} {σ : Nat → va_E} {H : Heap} {locs : List Loc} {av : List Value} (hE : g_EV D s) (hZ : g_EZ (g_A D s.heap.size) s s.heap) (hP : va_P D vwCl (g_W D σ) H) (hS : va_S (g_A D s.heap.size) s.heap H locs) (hU : U.heap = H) (hW : s.WarmedH U.vm) : va_Pc av (g_Pre D σ H.size) av.toArray U :=
  ⟨rfl, by rw [hU], by rw [hU]; exact hP, hE.warm hW, hZ.call hW hU hS⟩
section GBASE
variable {p : Program} {l : Launch} {e : Env} {R : Room} {s : State} {m : MethodId} {args : Array Value} {below : List Frame} {meth : Method} {c : Code} {H : Heap} {locs : List Loc} {cells slots : Nat} {Q : State → Prop}
variable {D : va_G} {σ : Nat → va_E} {pc : Nat} {ls : Array Slot} {rest st0 : List Value} {a : Array Value} {post : Option Value → (Nat → va_E) → Prop} {mc ms : Nat}
theorem g_call (hr : va_Run p l e R s m args below meth c H locs cells slots mc ms (F0 m pc ls st0) rest (g_Q D post (g_A D H.size) a) (g_A D H.size)) (hS : va_S (g_A D s.heap.size) s.heap H locs)
    (kk : ∀ (v : Option Value) (σ' : Nat → va_E) (H1 : Heap) (locs1 : List Loc), post v σ' → va_P D vwCl (g_W D σ') H1 → va_S (g_A D s.heap.size) s.heap H1 locs1 → W p l e R s m args below meth c H1 locs1 (cells + mc) (slots + ms) Q (F0 m (pc + 3) ls (v.toList ++ rest))) : W p l e R s m args below meth c H locs cells slots Q (F0 m pc ls st0) := by
  intro T hT X
  obtain ⟨v, st₀, t, T', L, h0, X', hL, e1, e2, ⟨⟨v', σ', hv, hp, hb⟩, hz, hk⟩, st⟩ := hr T hT X
  cases hv
  rw [h0] at hz hk
  have hA : ∀ q, q < H.size → g_A D H.size q → g_A D s.heap.size q := fun q _ h => g_Amono hS.1 q h
  obtain ⟨t2, a1, b1⟩ := kk v σ' T'.heap (locs ++ L) hp (by rw [e1]; exact hb)
    ⟨Nat.le_trans hS.1 (by rw [e1]; exact hz), fun q h1 h2 => by rw [e1, hk q (Nat.lt_of_lt_of_le h1 hS.1) (fun z => h2 (hA q (Nat.lt_of_lt_of_le h1 hS.1) z))]; exact hS.2.1 q h1 h2, fun q hq => by
      rcases List.mem_append.mp hq with h | h
      · exact hS.2.2 q h
      · exact g_Amono hS.1 _ (hL q h)⟩ T' rfl X'
  exact ⟨t2, st t2 a1, b1⟩
/-- a return: the answer, the world -/
theorem g_fin {v : Option Value} {t : State} (hp : post v σ) (hP : va_P D vwCl (g_W D σ) H) (hS : va_S (g_A D s.heap.size) s.heap H locs) (ht : t.heap = H) : g_Q D post (g_A D s.heap.size) a s (.returned v) t :=
  ⟨⟨v, σ, rfl, hp, by rw [ht]; exact hP⟩, hS.F ht⟩
end GBASE
/-- a body, from its entry -/
theorem g_ofW {l : Launch} {D : va_G} {y : MethodName} {cc : ByteArray} {nL : Nat} {ret : Option FieldType} {rm : Room} {av : List Value} {σ : Nat → va_E} {post : Option Value → (Nat → va_E) → Prop} (lv : List (Nat × Value)) (hy : plainName y.cls = true) (hn : (lg_sl av).length ≤ nL) (hlv : lv_args 0 av = lv)
    (body : ∀ (p : Program) (e : Env) (s : State) (m : MethodId) (args : Array Value) (below : List Frame) (meth : Method) (c : Code), p.tables.exec = Jvm.exec → c.code = cc → meth.sig.returnType = ret → c.maxLocals = nL → s.vm.findClass y.cls = some m.cls → meth.locks = false → (∀ w ∈ g_WA, w.before args s = true) → g_EV D s → g_EZ (g_A D s.heap.size) s s.heap → va_P D vwCl (g_W D σ) s.heap → va_S (g_A D s.heap.size) s.heap s.heap [] → (name_ok : y.name = meth.name) → ∀ ls : Array Slot, lv_has ls nL lv →
      W p l e rm s m args below meth c s.heap [] 0 0 (MQ below (g_Q D post (g_A D s.heap.size)) args s rm.cells rm.slots (g_A D s.heap.size)) (F0 m 0 ls [])) : g_M l D y cc nL ret rm av σ post := by
  intro sz
  refine Met.ofW (cc := cc) (maxL := nL) (ret := ret) hy rfl ?_
  intro p e s m args below meth c s₁ B hml hv
  obtain ⟨rfl, hsz, hP, hE, hZ⟩ := hv
  subst hsz
  have hl := lv_entry av (n := nL) hn
  rw [lg_entry_eq]
  rw [hlv] at hl
  exact body p e s m av.toArray below meth c B.exec B.bytes B.returns hml (findClass_of_methodNamed B.named) B.notSynchronized hE.hts hE hZ hP va_S.rf (name_of_methodNamed B.named B.method).1.symm _ hl
/-! CALLS -/
/-- what the tables say of a callee -/
def g_cd (y : MethodName) (n : Nat) : Prop := y.cls ≠ "java/lang/invoke/MethodHandle" ∧ y.cls ≠ "java/lang/invoke/VarHandle" ∧ (parseMethodDescriptor y.desc).map (fun d => d.parameters.length) = some n
def g_kV (own : String) (idx : Nat) (y : MethodName) (cc : ByteArray) (nL : Nat) (ret : Option FieldType) (n : Nat) : Prop := Cond.methodLink own idx y ∈ g_WA ∧ Cond.instanceMethod y ∈ g_WA ∧ Cond.selects y.cls y y ∈ g_WA ∧ Cond.initialized y.cls ∈ g_WA ∧ Cond.code y cc nL ret ∈ g_WA ∧ g_cd y n
def g_kS (own : String) (idx : Nat) (y : MethodName) (cc : ByteArray) (nL : Nat) (ret : Option FieldType) (n : Nat) : Prop := Cond.methodLink own idx y ∈ g_WA ∧ Cond.static y ∈ g_WA ∧ Cond.initialized y.cls ∈ g_WA ∧ Cond.code y cc nL ret ∈ g_WA ∧ g_cd y n
def g_kN (own : String) (idx : Nat) (y : MethodName) (cc : ByteArray) (nL : Nat) (ret : Option FieldType) (n : Nat) : Prop := Cond.methodLinkNest own idx y RX2 ∈ g_NL ∧ Cond.static y ∈ g_WA ∧ Cond.initialized y.cls ∈ g_WA ∧ Cond.code y cc nL ret ∈ g_WA ∧ g_cd y n
theorem g_GI {w : Cond} (h : w ∈ g_WA) : GoodIn g_WA [w] := fun x hx => by rw [List.mem_singleton.mp hx]; exact ⟨h, g_good h⟩
section GCALL
variable {p : Program} {l : Launch} {e : Env} {R : Room} {s : State} {m : MethodId} {args : Array Value} {below : List Frame} {meth : Method} {c : Code} {H : Heap} {locs : List Loc} {cells slots : Nat} {Q : State → Prop}
variable {D : va_G} {σ : Nat → va_E} {pc : Nat} {ls : Array Slot} {st0 : List Value} {post : Option Value → (Nat → va_E) → Prop}
variable {cc : ByteArray} {nl : Nat} {own : String}
/-- a virtual call of y upon the cell q0; As: its arguments, rest: what stays upon the stack -/
theorem g_callV {y : MethodName} {bytes : ByteArray} {maxL idx n : Nat} {ret : Option FieldType} {rm : Room} {As rest : List Value} {b q0 ci : Nat} {cl : vw_C} {fs : List Value}
    (hx : p.tables.exec = Jvm.exec) (hb : c.code = cc) (hml : c.maxLocals = nl) (hown : s.vm.findClass own = some m.cls) (hts : ∀ w ∈ g_WA, w.before args s = true) (hE : g_EV D s) (hZ : g_EZ (g_A D s.heap.size) s s.heap) (hP : va_P D vwCl (g_W D σ) H) (hS : va_S (g_A D s.heap.size) s.heap H locs) (hl : ls.size = nl)
    (hM : g_M l D y bytes maxL ret rm (.ref b :: As) σ post) (k : g_kV own idx y bytes maxL ret n) (hq : q0 < 33) (hσ : σ q0 = .inr (ci, fs)) (hbq : b = ad_ D q0) (hc : vwCl[ci]? = some cl) (hcl : cl.1 = y.cls)
    (hn : As.length = n) (hst : st0 = As.reverse ++ .ref b :: rest) (hR : rm.frames + 1 ≤ R.frames ∧ 8 + (maxL + 11) + rm.locals ≤ R.locals) (hrest : (rest.map fun v => v.category).sum ≤ 8) (hf : cells + rm.cells ≤ R.cells ∧ slots + rm.slots ≤ R.slots)
    (hdg : decode cc pc = .ok (.invokevirtual idx, 3))
    (kk : ∀ (v : Option Value) (σ' : Nat → va_E) (H1 : Heap) (locs1 : List Loc), post v σ' → va_P D vwCl (g_W D σ') H1 → va_S (g_A D s.heap.size) s.heap H1 locs1 → W p l e R s m args below meth c H1 locs1 (cells + rm.cells) (slots + rm.slots) Q (F0 m (pc + 3) ls (v.toList ++ rest))) : W p l e R s m args below meth c H locs cells slots Q (F0 m pc ls st0) := by
  obtain ⟨k1, k2, k3, k4, k5, k6, k7, k8⟩ := k
  have hW : GoodIn g_WA (wsV own idx y.cls y [Cond.code y bytes maxL ret]) := by
    intro w hw
    simp only [wsV, List.cons_append, List.nil_append, List.mem_cons, List.not_mem_nil, or_false] at hw
    rcases hw with rfl | rfl | rfl | rfl | rfl <;> exact ⟨by assumption, g_good (by assumption)⟩
  refine g_call (va_runV (As := As) (rest := rest) ⟨hx, hb, hml, hown, hts⟩ (hM H.size) (cwV (C := y.cls) n hts hW rfl rfl rfl ⟨rfl, k6, k7, k8⟩ hR) ⟨g_blind, ?_, fun U hU hW => g_pre hE hZ hP hS hU hW⟩ rfl hn hl hst (lv_room hrest) hdg hf) hS kk
  rw [← hcl, hbq]
  exact va_recv hE.1 hP hc (g_at hq hσ)
theorem g_callS {y : MethodName} {bytes : ByteArray} {maxL idx n : Nat} {ret : Option FieldType} {rm : Room} {As rest : List Value}
    (hx : p.tables.exec = Jvm.exec) (hb : c.code = cc) (hml : c.maxLocals = nl) (hown : s.vm.findClass own = some m.cls) (hts : ∀ w ∈ g_WA, w.before args s = true) (hE : g_EV D s) (hZ : g_EZ (g_A D s.heap.size) s s.heap) (hP : va_P D vwCl (g_W D σ) H) (hS : va_S (g_A D s.heap.size) s.heap H locs) (hl : ls.size = nl)
    (hM : g_M l D y bytes maxL ret rm As σ post) (k : g_kS own idx y bytes maxL ret n)
    (hn : As.length = n) (hst : st0 = As.reverse ++ rest) (hR : rm.frames + 1 ≤ R.frames ∧ 8 + (maxL + 11) + rm.locals ≤ R.locals) (hrest : (rest.map fun v => v.category).sum ≤ 8) (hf : cells + rm.cells ≤ R.cells ∧ slots + rm.slots ≤ R.slots)
    (hdg : decode cc pc = .ok (.invokestatic idx, 3))
    (kk : ∀ (v : Option Value) (σ' : Nat → va_E) (H1 : Heap) (locs1 : List Loc), post v σ' → va_P D vwCl (g_W D σ') H1 → va_S (g_A D s.heap.size) s.heap H1 locs1 → W p l e R s m args below meth c H1 locs1 (cells + rm.cells) (slots + rm.slots) Q (F0 m (pc + 3) ls (v.toList ++ rest))) : W p l e R s m args below meth c H locs cells slots Q (F0 m pc ls st0) := by
  obtain ⟨k1, k2, k4, k5, k6, k7, k8⟩ := k
  have hW : GoodIn g_WA (va_wsS own idx y [Cond.code y bytes maxL ret]) := by
    intro w hw
    simp only [va_wsS, List.cons_append, List.nil_append, List.mem_cons, List.not_mem_nil, or_false] at hw
    rcases hw with rfl | rfl | rfl | rfl <;> exact ⟨by assumption, g_good (by assumption)⟩
  exact g_call (va_runS (As := As) (rest := rest) ⟨hx, hb, hml, hown, hts⟩ (hM H.size) (va_cwS n hts hW rfl rfl rfl ⟨k6, k7, k8⟩ hR) ⟨g_blind, fun U hU hW => g_pre hE hZ hP hS hU hW⟩ rfl hn hl hst (lv_room hrest) hdg hf) hS kk
theorem g_callN {y : MethodName} {bytes : ByteArray} {maxL idx n : Nat} {ret : Option FieldType} {rm : Room} {As rest : List Value}
    (hx : p.tables.exec = Jvm.exec) (hb : c.code = cc) (hml : c.maxLocals = nl) (hown : s.vm.findClass own = some m.cls) (hts : ∀ w ∈ g_WA, w.before args s = true) (hE : g_EV D s) (hZ : g_EZ (g_A D s.heap.size) s s.heap) (hP : va_P D vwCl (g_W D σ) H) (hS : va_S (g_A D s.heap.size) s.heap H locs) (hl : ls.size = nl)
    (hM : g_M l D y bytes maxL ret rm As σ post) (k : g_kN own idx y bytes maxL ret n)
    (hn : As.length = n) (hst : st0 = As.reverse ++ rest) (hR : rm.frames + 1 ≤ R.frames ∧ 8 + (maxL + 11) + rm.locals ≤ R.locals) (hrest : (rest.map fun v => v.category).sum ≤ 8) (hf : cells + rm.cells ≤ R.cells ∧ slots + rm.slots ≤ R.slots)
    (hdg : decode cc pc = .ok (.invokestatic idx, 3))
    (kk : ∀ (v : Option Value) (σ' : Nat → va_E) (H1 : Heap) (locs1 : List Loc), post v σ' → va_P D vwCl (g_W D σ') H1 → va_S (g_A D s.heap.size) s.heap H1 locs1 → W p l e R s m args below meth c H1 locs1 (cells + rm.cells) (slots + rm.slots) Q (F0 m (pc + 3) ls (v.toList ++ rest))) : W p l e R s m args below meth c H locs cells slots Q (F0 m pc ls st0) := by
  obtain ⟨k1, k2, k4, k5, k6, k7, k8⟩ := k
  exact g_call (va_runSN (As := As) (rest := rest) ⟨hx, hb, hml, hown, hts⟩ (hM H.size) ⟨va_cnB n hts (g_GI k5) rfl rfl rfl (hE.2.2.1 _ k1) (hts _ k4) ⟨k6, k7, k8⟩ hR, hts _ k2, trivial⟩ ⟨g_blind, fun U hU hW => g_pre hE hZ hP hS hU hW⟩ rfl hn hl hst (lv_room hrest) hdg hf) hS kk
end GCALL
/-! THE SAME, WITH EXCEPTIONS -/
def g_XC (D : va_G) (σ : Nat → va_E) (px : String → Prop) (A : Nat → Prop) : String → State → State → Prop := fun E st t => px E ∧ va_P D vwCl (g_W D σ) t.heap ∧ va_F A st t
/-- y, called with av in the world σ, returns as post tells, or throws a class of px, with the world as it was -/
def g_X (l : Launch) (D : va_G) (y : MethodName) (cc : ByteArray) (nL : Nat) (ret : Option FieldType) (rm : Room) (av : List Value) (σ : Nat → va_E) (post : Option Value → (Nat → va_E) → Prop) (px : String → Prop) : Prop :=
  ∀ sz : Nat, vx_Met l y [Cond.code y cc nL ret] rm (va_Pc av (g_Pre D σ sz)) (g_Q D post (g_A D sz)) (g_XC D σ px (g_A D sz)) rm.cells rm.slots (g_A D sz)
theorem g_ofX {l : Launch} {D : va_G} {y : MethodName} {cc : ByteArray} {nL : Nat} {ret : Option FieldType} {rm : Room} {av : List Value} {σ : Nat → va_E} {post : Option Value → (Nat → va_E) → Prop} {px : String → Prop} (lv : List (Nat × Value)) (hy : plainName y.cls = true) (hn : (lg_sl av).length ≤ nL) (hlv : lv_args 0 av = lv)
    (body : ∀ (p : Program) (e : Env) (s : State) (m : MethodId) (args : Array Value) (below : List Frame) (meth : Method) (c : Code), p.tables.exec = Jvm.exec → c.code = cc → meth.sig.returnType = ret → c.maxLocals = nL → s.vm.findClass y.cls = some m.cls → meth.locks = false → (∀ w ∈ g_WA, w.before args s = true) → g_EV D s → g_EZ (g_A D s.heap.size) s s.heap → va_P D vwCl (g_W D σ) s.heap → va_S (g_A D s.heap.size) s.heap s.heap [] → (∀ x ∈ c.exceptionTable.toList, False) → ∀ ls : Array Slot, lv_has ls nL lv →
      W p l e rm s m args below meth c s.heap [] 0 0 (vx_MQ below (g_Q D post (g_A D s.heap.size)) (g_XC D σ px (g_A D s.heap.size)) args s rm.cells rm.slots (g_A D s.heap.size)) (F0 m 0 ls [])) : g_X l D y cc nL ret rm av σ post px := by
  intro sz
  refine vx_ofW (cc := cc) (maxL := nL) (ret := ret) hy rfl ?_
  intro p e s m args below meth c s₁ B hml ht hv
  obtain ⟨rfl, hsz, hP, hE, hZ⟩ := hv
  subst hsz
  have hl := lv_entry av (n := nL) hn
  rw [lg_entry_eq]
  rw [hlv] at hl
  exact body p e s m av.toArray below meth c B.exec B.bytes B.returns hml (findClass_of_methodNamed B.named) B.notSynchronized hE.hts hE hZ hP va_S.rf ht _ hl
section GX
variable {p : Program} {l : Launch} {e : Env} {R : Room} {s : State} {m : MethodId} {args : Array Value} {below : List Frame} {meth : Method} {c : Code} {H : Heap} {locs : List Loc} {cells slots : Nat} {Q : State → Prop}
variable {D : va_G} {σ : Nat → va_E} {pc : Nat} {ls : Array Slot} {rest st0 : List Value} {a : Array Value} {post : Option Value → (Nat → va_E) → Prop} {px : String → Prop} {mc ms : Nat}
variable {cc : ByteArray} {nl : Nat} {own : String}
theorem g_callX (hr : vx_Run p l e R s m args below meth c H locs cells slots mc ms (F0 m pc ls st0) rest (g_Q D post (g_A D H.size) a) (g_XC D σ px (g_A D H.size)) (g_A D H.size)) (hS : va_S (g_A D s.heap.size) s.heap H locs)
    (kx : ∀ (E : String) (ce : Cell) (q9 : Addr) (H1 : Heap) (locs1 : List Loc), px E → va_P D vwCl (g_W D σ) H1 → va_S (g_A D s.heap.size) s.heap H1 locs1 → H1[q9]? = some ce → ce.vm = .none → s.vm.findClass E = some ce.cls → vx_W p l e R s m args below meth c H1 locs1 (cells + mc) (slots + ms) Q (F0 m pc ls rest) q9)
    (kk : ∀ (v : Option Value) (σ' : Nat → va_E) (H1 : Heap) (locs1 : List Loc), post v σ' → va_P D vwCl (g_W D σ') H1 → va_S (g_A D s.heap.size) s.heap H1 locs1 → W p l e R s m args below meth c H1 locs1 (cells + mc) (slots + ms) Q (F0 m (pc + 3) ls (v.toList ++ rest))) : W p l e R s m args below meth c H locs cells slots Q (F0 m pc ls st0) := by
  have hA : ∀ q, q < H.size → g_A D H.size q → g_A D s.heap.size q := fun q _ h => g_Amono hS.1 q h
  intro T hT X
  rcases hr T hT X with ⟨v, st₀, t, T', L, h0, X', hL, e1, e2, ⟨⟨v', σ', hv, hp, hb⟩, hF⟩, st⟩ | ⟨q, st₀, t, T', L, E, ce, h0, X', hL, e1, e2, ⟨hp, hb, hF⟩, hce, hcv, hcl, st⟩
  · cases hv
    obtain ⟨k1, k2, k3⟩ := vx_keep h0 e1 hS hA (g_Amono hS.1) hL hF
    obtain ⟨t2, a1, b1⟩ := kk v σ' T'.heap (locs ++ L) hp (by rw [e1]; exact hb) k3 T' rfl X'
    exact ⟨t2, st t2 a1, b1⟩
  · obtain ⟨k1, k2, k3⟩ := vx_keep h0 e1 hS hA (g_Amono hS.1) hL hF
    obtain ⟨t2, a1, b1⟩ := kx E ce q T'.heap (locs ++ L) hp (by rw [e1]; exact hb) k3 (by rw [e1]; exact hce) hcv hcl T' rfl X'
    exact ⟨t2, st.trans a1, b1⟩
/-- an exception goes on to the caller -/
theorem g_out {E : String} {ce : Cell} {q9 : Addr} {mc ms : Nat} (hout : ∀ x ∈ c.exceptionTable.toList, False) (hlocks : meth.locks = false) (hp : px E) (hP : va_P D vwCl (g_W D σ) H) (hS : va_S (g_A D s.heap.size) s.heap H locs) (hcell : H[q9]? = some ce) (hv : ce.vm = .none) (hcl : s.vm.findClass E = some ce.cls) (hc : cells ≤ mc) (hs : slots ≤ ms) :
    vx_W p l e R s m args below meth c H locs cells slots (vx_MQ below (g_Q D post (g_A D s.heap.size)) (g_XC D σ px (g_A D s.heap.size)) args s mc ms (g_A D s.heap.size)) (F0 m pc ls rest) q9 :=
  vx_out (fun x hx => (hout x hx).elim) hlocks hcell hv hcl (fun t ht _ => ⟨hp, by rw [ht]; exact hP, hS.F ht⟩) hS.2.2 hc hs
/-- a virtual call of y that may throw -/
theorem g_callVX {y : MethodName} {bytes : ByteArray} {maxL idx n : Nat} {ret : Option FieldType} {rm : Room} {As rest : List Value} {b q0 ci : Nat} {cl : vw_C} {fs : List Value}
    (hx : p.tables.exec = Jvm.exec) (hb : c.code = cc) (hml : c.maxLocals = nl) (hown : s.vm.findClass own = some m.cls) (hts : ∀ w ∈ g_WA, w.before args s = true) (hE : g_EV D s) (hZ : g_EZ (g_A D s.heap.size) s s.heap) (hP : va_P D vwCl (g_W D σ) H) (hS : va_S (g_A D s.heap.size) s.heap H locs) (hl : ls.size = nl)
    (hM : g_X l D y bytes maxL ret rm (.ref b :: As) σ post px) (k : g_kV own idx y bytes maxL ret n) (hq : q0 < 33) (hσ : σ q0 = .inr (ci, fs)) (hbq : b = ad_ D q0) (hc : vwCl[ci]? = some cl) (hcl : cl.1 = y.cls)
    (hn : As.length = n) (hst : st0 = As.reverse ++ .ref b :: rest) (hR : rm.frames + 1 ≤ R.frames ∧ 8 + (maxL + 11) + rm.locals ≤ R.locals) (hrest : (rest.map fun v => v.category).sum ≤ 8) (hf : cells + rm.cells ≤ R.cells ∧ slots + rm.slots ≤ R.slots)
    (hdg : decode cc pc = .ok (.invokevirtual idx, 3))
    (kx : ∀ (E : String) (ce : Cell) (q9 : Addr) (H1 : Heap) (locs1 : List Loc), px E → va_P D vwCl (g_W D σ) H1 → va_S (g_A D s.heap.size) s.heap H1 locs1 → H1[q9]? = some ce → ce.vm = .none → s.vm.findClass E = some ce.cls → vx_W p l e R s m args below meth c H1 locs1 (cells + rm.cells) (slots + rm.slots) Q (F0 m pc ls rest) q9)
    (kk : ∀ (v : Option Value) (σ' : Nat → va_E) (H1 : Heap) (locs1 : List Loc), post v σ' → va_P D vwCl (g_W D σ') H1 → va_S (g_A D s.heap.size) s.heap H1 locs1 → W p l e R s m args below meth c H1 locs1 (cells + rm.cells) (slots + rm.slots) Q (F0 m (pc + 3) ls (v.toList ++ rest))) : W p l e R s m args below meth c H locs cells slots Q (F0 m pc ls st0) := by
  obtain ⟨k1, k2, k3, k4, k5, k6, k7, k8⟩ := k
  have hW : GoodIn g_WA (wsV own idx y.cls y [Cond.code y bytes maxL ret]) := by
    intro w hw
    simp only [wsV, List.cons_append, List.nil_append, List.mem_cons, List.not_mem_nil, or_false] at hw
    rcases hw with rfl | rfl | rfl | rfl | rfl <;> exact ⟨by assumption, g_good (by assumption)⟩
  refine g_callX (vx_runV (As := As) (rest := rest) ⟨hx, hb, hml, hown, hts⟩ (hM H.size) (cwV (C := y.cls) n hts hW rfl rfl rfl ⟨rfl, k6, k7, k8⟩ hR) ⟨g_blind, ?_, fun U hU hW => g_pre hE hZ hP hS hU hW⟩ rfl hn hl hst (lv_room hrest) hdg hf) hS kx kk
  rw [← hcl, hbq]
  exact va_recv hE.1 hP hc (g_at hq hσ)
theorem g_callSX {y : MethodName} {bytes : ByteArray} {maxL idx n : Nat} {ret : Option FieldType} {rm : Room} {As rest : List Value}
    (hx : p.tables.exec = Jvm.exec) (hb : c.code = cc) (hml : c.maxLocals = nl) (hown : s.vm.findClass own = some m.cls) (hts : ∀ w ∈ g_WA, w.before args s = true) (hE : g_EV D s) (hZ : g_EZ (g_A D s.heap.size) s s.heap) (hP : va_P D vwCl (g_W D σ) H) (hS : va_S (g_A D s.heap.size) s.heap H locs) (hl : ls.size = nl)
    (hM : g_X l D y bytes maxL ret rm As σ post px) (k : g_kS own idx y bytes maxL ret n)
    (hn : As.length = n) (hst : st0 = As.reverse ++ rest) (hR : rm.frames + 1 ≤ R.frames ∧ 8 + (maxL + 11) + rm.locals ≤ R.locals) (hrest : (rest.map fun v => v.category).sum ≤ 8) (hf : cells + rm.cells ≤ R.cells ∧ slots + rm.slots ≤ R.slots)
    (hdg : decode cc pc = .ok (.invokestatic idx, 3))
    (kx : ∀ (E : String) (ce : Cell) (q9 : Addr) (H1 : Heap) (locs1 : List Loc), px E → va_P D vwCl (g_W D σ) H1 → va_S (g_A D s.heap.size) s.heap H1 locs1 → H1[q9]? = some ce → ce.vm = .none → s.vm.findClass E = some ce.cls → vx_W p l e R s m args below meth c H1 locs1 (cells + rm.cells) (slots + rm.slots) Q (F0 m pc ls rest) q9)
    (kk : ∀ (v : Option Value) (σ' : Nat → va_E) (H1 : Heap) (locs1 : List Loc), post v σ' → va_P D vwCl (g_W D σ') H1 → va_S (g_A D s.heap.size) s.heap H1 locs1 → W p l e R s m args below meth c H1 locs1 (cells + rm.cells) (slots + rm.slots) Q (F0 m (pc + 3) ls (v.toList ++ rest))) : W p l e R s m args below meth c H locs cells slots Q (F0 m pc ls st0) := by
  obtain ⟨k1, k2, k4, k5, k6, k7, k8⟩ := k
  have hW : GoodIn g_WA (va_wsS own idx y [Cond.code y bytes maxL ret]) := by
    intro w hw
    simp only [va_wsS, List.cons_append, List.nil_append, List.mem_cons, List.not_mem_nil, or_false] at hw
    rcases hw with rfl | rfl | rfl | rfl <;> exact ⟨by assumption, g_good (by assumption)⟩
  exact g_callX (vx_runS (As := As) (rest := rest) ⟨hx, hb, hml, hown, hts⟩ (hM H.size) (va_cwS n hts hW rfl rfl rfl ⟨k6, k7, k8⟩ hR) ⟨g_blind, fun U hU hW => g_pre hE hZ hP hS hU hW⟩ rfl hn hl hst (lv_room hrest) hdg hf) hS kx kk
/-- 'throw new E("text")' in FingerPosts -/
theorem g_throw {cls text : String} {ik is ic : Nat} {mc ms : Nat} (hx : p.tables.exec = Jvm.exec) (hb : c.code = cc) (hst : l.stackTraces = false) (hown : s.vm.findClass RX2 = some m.cls) (hts : ∀ w ∈ g_WA, w.before args s = true) (hE : g_EV D s) (hZ : g_EZ (g_A D s.heap.size) s s.heap) (hP : va_P D vwCl (g_W D σ) H) (hS : va_S (g_A D s.heap.size) s.heap H locs) (hsize : ls.size = c.maxLocals)
    (hcls : Bundle.fit cls = true) (hk : Cond.classLink RX2 ik cls ∈ g_WA) (hini : Cond.initialized cls ∈ g_WA) (hcast : Cond.castable cls cls ∈ g_NL) (htx : (is, text) ∈ g_SL)
    (hwords : ∀ w ∈ (vx_atS RX2 ic cls ["java/lang/RuntimeException", "java/lang/Exception"]).filter goodWord, w ∈ g_WA) (hbad : ∀ w ∈ (vx_atS RX2 ic cls ["java/lang/RuntimeException", "java/lang/Exception"]).filter (fun w => !goodWord w), w ∈ [Cond.castable cls cls])
    (hgood : ∀ w ∈ Cond.classLink RX2 ik cls :: Cond.initialized cls :: vx_atS RX2 ic cls ["java/lang/RuntimeException", "java/lang/Exception"], vx_ot w = true)
    (d0 : decode cc pc = .ok (.new ik, 3)) (d3 : decode cc (pc + 3) = .ok (.dup, 1)) (d4 : decode cc (pc + 4) = .ok (.ldc is, 2)) (d6 : decode cc (pc + 6) = .ok (.invokespecial ic, 3)) (d9 : decode cc (pc + 9) = .ok (.athrow, 1))
    (hout : ∀ x ∈ c.exceptionTable.toList, False) (hlocks : meth.locks = false) (hR : 5 < R.frames ∧ (rest.map fun v => v.category).sum + 82 ≤ R.locals ∧ cells + 1 ≤ R.cells ∧ slots + 6 ≤ R.slots) (hp : px cls) (hc : cells + 1 ≤ mc) (hs : slots + 6 ≤ ms) :
    W p l e R s m args below meth c H locs cells slots (vx_MQ below (g_Q D post (g_A D s.heap.size)) (g_XC D σ px (g_A D s.heap.size)) args s mc ms (g_A D s.heap.size)) (F0 m pc ls rest) := by
  refine vx_throwS (A := g_A D s.heap.size) (own := RX2) (cls := cls) (text := text) (names := ["java/lang/RuntimeException", "java/lang/Exception"]) (ik := ik) (is := is) (ic := ic) hx hb hst hown hcls (by decide +kernel) (hts _ hk) (hts _ hini) (hE.2.2.2.1 _ htx) ?_ hgood hZ.1 hZ.2 hS hsize d0 d3 d4 d6 d9 (fun x hx => (hout x hx).elim) hR.1 (by have := hR.2.1; simp only [List.length_cons, List.length_nil]; omega) hR.2.2.1 hR.2.2.2 hlocks ?_ hS.2.2 hc hs
  · exact vx_hat (fun w hw => hts w (hwords w hw)) hbad (vx_c (hE.2.2.1 _ hcast |> va_tabs rfl rfl) vx_n)
  · intro t _ h1 h2
    refine ⟨hp, hP.kept (fun k q hk => h2 q.1 (hP k q hk).lt), Nat.le_trans hS.1 h1, fun q hq hA => ?_⟩
    rw [h2 q (Nat.lt_of_lt_of_le hq hS.1)]
    exact hS.2.1 q hq hA
end GX
end
section
/-! ROWS OVER THE WORLD -/
theorem g_inX0 : ∀ w ∈ wsX00, w ∈ g_WA := by decide +kernel
theorem g_inX1 : ∀ w ∈ wsX10, w ∈ g_WA := by decide +kernel
theorem g_inX2 : ∀ w ∈ wsX20, w ∈ g_WA := by decide +kernel
theorem g_inX3 : ∀ w ∈ wsX30, w ∈ g_WA := by decide +kernel
theorem g_inc (i : Nat) : nI i + Int32.ofInt 1 = nI (i + 1) := nI_1 i
theorem g_lt {a b : Nat} (h : nI a < nI b) (ha : a < 2 ^ 31) (hb : b < 2 ^ 31) : a < b := (nI_ltI ha hb).mp h
theorem g_nlt {a b : Nat} (h : ¬ nI a < nI b) (ha : a < 2 ^ 31) (hb : b < 2 ^ 31) : b ≤ a := Nat.not_lt.mp (mt (nI_ltI ha hb).mpr h)
theorem g_le {a b : Nat} (h : nI a ≤ nI b) (ha : a < 2 ^ 31) (hb : b < 2 ^ 31) : a ≤ b := (nI_leI ha hb).mp h
theorem g_nle {a b : Nat} (h : ¬ nI a ≤ nI b) (ha : a < 2 ^ 31) (hb : b < 2 ^ 31) : b < a := Nat.not_le.mp (mt (nI_leI ha hb).mpr h)
theorem g_eq {a b : Nat} (h : nI a = nI b) (ha : a < 2 ^ 31) (hb : b < 2 ^ 31) : a = b := (nI_eq ha hb).mp h
theorem g_ne {a b : Nat} (h : ¬ nI a = nI b) (ha : a < 2 ^ 31) (hb : b < 2 ^ 31) : a ≠ b := mt (nI_eq ha hb).mpr h
/-- σ' is σ but at lo .. hi -/
def g_off (lo hi : Nat) (σ σ' : Nat → va_E) : Prop := ∀ k, k < lo ∨ hi < k → σ' k = σ k
theorem g_off.rf {lo hi : Nat} {σ : Nat → va_E} : g_off lo hi σ σ := fun _ _ => rfl
theorem g_off.up {lo hi k : Nat} {σ σ' : Nat → va_E} {x : va_E} (h : g_off lo hi σ σ') (h1 : lo ≤ k) (h2 : k ≤ hi) : g_off lo hi σ (va_up σ' k x) := fun j hj => by
  have : j ≠ k := by omega
  simp [va_up, this, h j hj]
theorem g_off.tr {lo hi : Nat} {σ σ' σ2 : Nat → va_E} (h : g_off lo hi σ σ') (h2 : g_off lo hi σ' σ2) : g_off lo hi σ σ2 := fun k hk => (h2 k hk).trans (h k hk)
theorem g_off.wd {lo hi lo2 hi2 : Nat} {σ σ' : Nat → va_E} (h : g_off lo hi σ σ') (h1 : lo2 ≤ lo) (h2 : hi ≤ hi2) : g_off lo2 hi2 σ σ' := fun k hk => h k (by omega)
theorem g_upn {σ : Nat → va_E} {k j : Nat} {x e : va_E} (h : σ j = e) (hj : j ≠ k) : va_up σ k x j = e := by simp [va_up, hj, h]
theorem g_ups {σ : Nat → va_E} {k : Nat} {x : va_E} : va_up σ k x k = x := by simp [va_up]
section GROWS
variable {p : Program} {l : Launch} {e : Env} {R : Room} {s : State} {m : MethodId} {args : Array Value} {below : List Frame} {meth : Method} {c : Code} {H : Heap} {locs : List Loc} {cells slots : Nat} {Q : State → Prop}
variable {D : va_G} {σ : Nat → va_E} {pc : Nat} {ls : Array Slot} {rest : List Value} {cc : ByteArray}
theorem g_top {x y : Int32} (h : x = y) (k : W p l e R s m args below meth c H locs cells slots Q (F0 m pc ls (.int y :: rest))) : W p l e R s m args below meth c H locs cells slots Q (F0 m pc ls (.int x :: rest)) := by rw [h]; exact k
theorem g_topl {x y : Int64} (h : x = y) (k : W p l e R s m args below meth c H locs cells slots Q (F0 m pc ls (.long y :: rest))) : W p l e R s m args below meth c H locs cells slots Q (F0 m pc ls (.long x :: rest)) := by rw [h]; exact k
theorem g_get {index ci N : Nat} {C : String} {T : u_T} (hx : p.tables.exec = Jvm.exec) (hb : c.code = cc) (hts : ∀ w ∈ g_WA, w.before args s = true) (hE : g_EV D s) (hown : s.vm.findClass C = some m.cls) (hP : va_P D vwCl (g_W D σ) H) (hin : ∀ w ∈ u_ws C T N, w ∈ g_WA) (hc : vwCl[ci]? = some (C, T, N)) {q0 : Nat} (hq : q0 < 33) {fs : List Value} (hσ : σ q0 = .inr (ci, fs)) (k : Nat) (hk : k < N) (hT : (T k).1 = C) (hlink : Cond.fieldLink C index C (T k).2.1 (T k).2.2.1 ∈ g_WA) {v : Value} (hv : fs[k]? = some v) (hdg : decode cc pc = .ok (.getfield index, 3))
    (kk : W p l e R s m args below meth c H locs cells slots Q (F0 m (pc + 3) ls (v :: rest))) : W p l e R s m args below meth c H locs cells slots Q (F0 m pc ls (.ref (ad_ D q0) :: rest)) :=
  va_get (D := D) (tys := g_tys D) hx hb hts hin hown hE.1 hP q0 (g_at hq hσ) hc k hk (hts _ hlink) (fun _ h => by rw [hT] at h; exact h) hv hdg kk
theorem g_put {index ci N : Nat} {C : String} {T : u_T} (hx : p.tables.exec = Jvm.exec) (hb : c.code = cc) (hts : ∀ w ∈ g_WA, w.before args s = true) (hE : g_EV D s) (hown : s.vm.findClass C = some m.cls) (hAD : g_AD D) (hP : va_P D vwCl (g_W D σ) H) (hS : va_S (g_A D s.heap.size) s.heap H locs) (hin : ∀ w ∈ u_ws C T N, w ∈ g_WA) (ty : Nat → FieldType) (hty : ∀ k, k < N → parseFieldDescriptor (T k).2.2.1 = some (ty k)) (hnm : ∀ a, a < N → ∀ b, b < N → a ≠ b → (T a).2.1 ≠ (T b).2.1) (hc : vwCl[ci]? = some (C, T, N)) {q0 : Nat} (hq : q0 < 33) {fs : List Value} (hσ : σ q0 = .inr (ci, fs)) (k : Nat) (hk : k < N) (hT : (T k).1 = C) (hfin : (T k).2.2.2 = false) (htk : parseFieldDescriptor (T k).2.2.1 = some .int) (hlink : Cond.fieldLink C index C (T k).2.1 (T k).2.2.1 ∈ g_WA) {v : Int32} (hlen : k < fs.length) (hdg : decode cc pc = .ok (.putfield index, 3))
    (kk : ∀ (H1 : Heap) (locs1 : List Loc), va_P D vwCl (g_W D (va_up σ q0 (.inr (ci, fs.set k (.int v))))) H1 → va_S (g_A D s.heap.size) s.heap H1 locs1 → W p l e R s m args below meth c H1 locs1 cells slots Q (F0 m (pc + 3) ls rest)) : W p l e R s m args below meth c H locs cells slots Q (F0 m pc ls (.int v :: .ref (ad_ D q0) :: rest)) := by
  refine va_put (D := D) (tys := g_tys D) hx hb hts hin ty hty hnm hown hE.1 hP (g_Ds hAD) hS q0 (g_at hq hσ) hc k hk (hts _ hlink) (fun _ h => by rw [hT] at h; exact h) hfin htk rfl rfl hlen hdg (fun H1 locs1 hP1 _ hS1 => kk H1 locs1 ?_ hS1)
  rw [← g_set]; exact hP1
theorem g_iald (hx : p.tables.exec = Jvm.exec) (hb : c.code = cc) (hE : g_EV D s) (hP : va_P D vwCl (g_W D σ) H) {q0 n : Nat} {f : Nat → Int32} (hq : q0 < 33) (hσ : σ q0 = .inl (g_cI D, n, .inl f)) {i : Int32} (hin : vp_in i n) (hdg : decode cc pc = .ok (.iaload, 1))
    (kk : W p l e R s m args below meth c H locs cells slots Q (F0 m (pc + 1) ls (.int (f i.toNatClampNeg) :: rest))) : W p l e R s m args below meth c H locs cells slots Q (F0 m pc ls (.int i :: .ref (ad_ D q0) :: rest)) :=
  va_iald (D := D) hx hb hE.1 hP q0 0 (g_at hq hσ) rfl hin hdg kk
theorem g_ialdN (hx : p.tables.exec = Jvm.exec) (hb : c.code = cc) (hE : g_EV D s) (hP : va_P D vwCl (g_W D σ) H) {q0 n j : Nat} {f : Nat → Int32} (hq : q0 < 33) (hσ : σ q0 = .inl (g_cI D, n, .inl f)) (hj : j < n) (hn : n < 2 ^ 31) {v : Int32} (hv : f j = v) (hdg : decode cc pc = .ok (.iaload, 1))
    (kk : W p l e R s m args below meth c H locs cells slots Q (F0 m (pc + 1) ls (.int v :: rest))) : W p l e R s m args below meth c H locs cells slots Q (F0 m pc ls (.int (nI j) :: .ref (ad_ D q0) :: rest)) := by
  refine g_iald hx hb hE hP hq hσ (vp_in_nI hj hn) hdg ?_
  rw [nI_clamp (Nat.lt_trans hj hn), hv]
  exact kk
theorem g_iast (hx : p.tables.exec = Jvm.exec) (hb : c.code = cc) (hE : g_EV D s) (hAD : g_AD D) (hP : va_P D vwCl (g_W D σ) H) (hS : va_S (g_A D s.heap.size) s.heap H locs) {q0 n : Nat} {f : Nat → Int32} (hq : q0 < 33) (hσ : σ q0 = .inl (g_cI D, n, .inl f)) {i x : Int32} (hin : vp_in i n) (hdg : decode cc pc = .ok (.iastore, 1))
    (kk : ∀ (H1 : Heap) (locs1 : List Loc), va_P D vwCl (g_W D (va_up σ q0 (.inl (g_cI D, n, .inl (upd f i.toNatClampNeg x))))) H1 → va_S (g_A D s.heap.size) s.heap H1 locs1 → W p l e R s m args below meth c H1 locs1 cells slots Q (F0 m (pc + 1) ls rest)) : W p l e R s m args below meth c H locs cells slots Q (F0 m pc ls (.int x :: .int i :: .ref (ad_ D q0) :: rest)) := by
  refine va_iast (D := D) hx hb hE.1 hP (g_Ds hAD) hS q0 0 (g_at hq hσ) rfl hin hdg (fun H1 locs1 hP1 _ hS1 => kk H1 locs1 ?_ hS1)
  rw [← g_set]; exact hP1
theorem g_iastN (hx : p.tables.exec = Jvm.exec) (hb : c.code = cc) (hE : g_EV D s) (hAD : g_AD D) (hP : va_P D vwCl (g_W D σ) H) (hS : va_S (g_A D s.heap.size) s.heap H locs) {q0 n j : Nat} {f : Nat → Int32} (hq : q0 < 33) (hσ : σ q0 = .inl (g_cI D, n, .inl f)) (hj : j < n) (hn : n < 2 ^ 31) {x : Int32} (hdg : decode cc pc = .ok (.iastore, 1))
    (kk : ∀ (H1 : Heap) (locs1 : List Loc), va_P D vwCl (g_W D (va_up σ q0 (.inl (g_cI D, n, .inl (upd f j x))))) H1 → va_S (g_A D s.heap.size) s.heap H1 locs1 → W p l e R s m args below meth c H1 locs1 cells slots Q (F0 m (pc + 1) ls rest)) : W p l e R s m args below meth c H locs cells slots Q (F0 m pc ls (.int x :: .int (nI j) :: .ref (ad_ D q0) :: rest)) := by
  refine g_iast hx hb hE hAD hP hS hq hσ (vp_in_nI hj hn) hdg ?_
  rw [nI_clamp (Nat.lt_trans hj hn)]
  exact kk
theorem g_alen (hx : p.tables.exec = Jvm.exec) (hb : c.code = cc) (hE : g_EV D s) (hP : va_P D vwCl (g_W D σ) H) {q0 n : Nat} {f : Nat → Int32} (hq : q0 < 33) (hσ : σ q0 = .inl (g_cI D, n, .inl f)) (hdg : decode cc pc = .ok (.arraylength, 1))
    (kk : W p l e R s m args below meth c H locs cells slots Q (F0 m (pc + 1) ls (.int (nI n) :: rest))) : W p l e R s m args below meth c H locs cells slots Q (F0 m pc ls (.ref (ad_ D q0) :: rest)) :=
  va_alen (D := D) hx hb hE.1 hP q0 0 (g_at hq hσ) (ty := .int) rfl (v := nI n) rfl hdg kk
theorem g_mmax {index : Nat} (hx : p.tables.exec = Jvm.exec) (hb : c.code = cc) (hml : c.maxLocals = ls.size) {own : String} (hown : s.vm.findClass own = some m.cls) (hts : ∀ w ∈ g_WA, w.before args s = true) (hlink : Cond.methodLink own index Lib.Math.max.name ∈ g_WA) (h3 : Cond.static Lib.Math.max.name ∈ g_WA ∧ Cond.initialized "java/lang/Math" ∈ g_WA ∧ Cond.code Lib.Math.max.name Lib.Math.max.code 2 (some .int) ∈ g_WA) (hR : 1 ≤ R.frames ∧ (rest.map fun v => v.category).sum + 13 ≤ R.locals ∧ cells ≤ R.cells ∧ slots ≤ R.slots) {x y : Int32} (hdg : decode cc pc = .ok (.invokestatic index, 3))
    (kk : W p l e R s m args below meth c H locs cells slots Q (F0 m (pc + 3) ls (.int (if x < y then y else x) :: rest))) : W p l e R s m args below meth c H locs cells slots Q (F0 m pc ls (.int y :: .int x :: rest)) :=
  va_mmax hx hb hml hown (hts _ hlink) (hts _ h3.1) (hts _ h3.2.1) (hts _ h3.2.2) hR.1 hR.2.1 hR.2.2.1 hR.2.2.2 hdg kk
theorem g_mmin {index : Nat} (hx : p.tables.exec = Jvm.exec) (hb : c.code = cc) (hml : c.maxLocals = ls.size) {own : String} (hown : s.vm.findClass own = some m.cls) (hts : ∀ w ∈ g_WA, w.before args s = true) (hlink : Cond.methodLink own index Lib.Math.min.name ∈ g_WA) (h3 : Cond.static Lib.Math.min.name ∈ g_WA ∧ Cond.initialized "java/lang/Math" ∈ g_WA ∧ Cond.code Lib.Math.min.name Lib.Math.min.code 2 (some .int) ∈ g_WA) (hR : 1 ≤ R.frames ∧ (rest.map fun v => v.category).sum + 13 ≤ R.locals ∧ cells ≤ R.cells ∧ slots ≤ R.slots) {x y : Int32} (hdg : decode cc pc = .ok (.invokestatic index, 3))
    (kk : W p l e R s m args below meth c H locs cells slots Q (F0 m (pc + 3) ls (.int (if y < x then y else x) :: rest))) : W p l e R s m args below meth c H locs cells slots Q (F0 m pc ls (.int y :: .int x :: rest)) :=
  va_mmin hx hb hml hown (hts _ hlink) (hts _ h3.1) (hts _ h3.2.1) (hts _ h3.2.2) hR.1 hR.2.1 hR.2.2.1 hR.2.2.2 hdg kk
/-- System.arraycopy from the cell q0 to the cell q1 -/
theorem g_copy {index : Nat} (hx : p.tables.exec = Jvm.exec) (hb : c.code = cc) (hml : c.maxLocals = ls.size) {own : String} (hown : s.vm.findClass own = some m.cls) (hts : ∀ w ∈ g_WA, w.before args s = true) (hlink : Cond.methodLink own index arraycopyName ∈ g_WA) (h3 : Cond.native arraycopyName ∈ g_WA ∧ Cond.static arraycopyName ∈ g_WA ∧ Cond.initialized "java/lang/System" ∈ g_WA) (hE : g_EV D s) (hAD : g_AD D) (hP : va_P D vwCl (g_W D σ) H) (hS : va_S (g_A D s.heap.size) s.heap H locs) {q0 q1 n0 n1 : Nat} {f g : Nat → Int32} (hq0 : q0 < 33) (hq1 : q1 < 33) (hσ0 : σ q0 = .inl (g_cI D, n0, .inl f)) (hσ1 : σ q1 = .inl (g_cI D, n1, .inl g)) {sp dp n : Nat} (h31 : sp < 2 ^ 31 ∧ dp < 2 ^ 31 ∧ n < 2 ^ 31) (h4 : sp + n ≤ n0) (h5 : dp + n ≤ n1) (hR : 1 ≤ R.frames ∧ (rest.map fun v => v.category).sum + 60 ≤ R.locals) (hdg : decode cc pc = .ok (.invokestatic index, 3))
    (kk : ∀ (H1 : Heap) (locs1 : List Loc), va_P D vwCl (g_W D (va_up σ q1 (.inl (g_cI D, n1, .inl (va_cpy f g sp dp n))))) H1 → va_S (g_A D s.heap.size) s.heap H1 locs1 → W p l e R s m args below meth c H1 locs1 cells slots Q (F0 m (pc + 3) ls rest)) : W p l e R s m args below meth c H locs cells slots Q (F0 m pc ls (.int (nI n) :: .int (nI dp) :: .ref (ad_ D q1) :: .int (nI sp) :: .ref (ad_ D q0) :: rest)) := by
  have e1 : (nI sp).toNatClampNeg = sp := nI_clamp h31.1
  have e2 : (nI dp).toNatClampNeg = dp := nI_clamp h31.2.1
  have e3 : (nI n).toNatClampNeg = n := nI_clamp h31.2.2
  refine va_copyi (D := D) (tys := g_tys D) hx hb hml hown (hts _ hlink) (hts _ h3.1) (hts _ h3.2.1) (hts _ h3.2.2) hE.1 hP (g_Ds hAD) hS q0 q1 0 0 (g_at hq0 hσ0) (g_at hq1 hσ1) (ty := .int) rfl rfl rfl (nI_pos h31.1) (nI_pos h31.2.1) (nI_pos h31.2.2) (by rw [e1, e3]; exact h4) (by rw [e2, e3]; exact h5) (fun _ _ => rfl) hR.1 ?_ hdg (fun H1 locs1 hP1 _ hS1 => kk H1 locs1 ?_ hS1)
  · refine Nat.le_trans ?_ hR.2
    exact Nat.add_le_add_left (by decide +kernel) _
  · rw [← g_set, ← e1, ← e2, ← e3]; exact hP1
/-- calls that make nothing -/
theorem g_callV0 {nl : Nat} {own : String} {st0 : List Value} {post : Option Value → (Nat → va_E) → Prop} {y : MethodName} {bytes : ByteArray} {maxL idx n : Nat} {ret : Option FieldType} {rm : Room} {As : List Value} {b q0 ci : Nat} {cl : vw_C} {fs : List Value}
    (hx : p.tables.exec = Jvm.exec) (hb : c.code = cc) (hml : c.maxLocals = nl) (hown : s.vm.findClass own = some m.cls) (hts : ∀ w ∈ g_WA, w.before args s = true) (hE : g_EV D s) (hZ : g_EZ (g_A D s.heap.size) s s.heap) (hP : va_P D vwCl (g_W D σ) H) (hS : va_S (g_A D s.heap.size) s.heap H locs) (hl : ls.size = nl)
    (hM : g_M l D y bytes maxL ret rm (.ref b :: As) σ post) (k : g_kV own idx y bytes maxL ret n) (hq : q0 < 33) (hσ : σ q0 = .inr (ci, fs)) (hbq : b = ad_ D q0) (hc : vwCl[ci]? = some cl) (hcl : cl.1 = y.cls)
    (hn : As.length = n) (hst : st0 = As.reverse ++ .ref b :: rest) (h0 : rm.cells = 0 ∧ rm.slots = 0) (hR : rm.frames + 1 ≤ R.frames ∧ 8 + (maxL + 11) + rm.locals ≤ R.locals) (hrest : (rest.map fun v => v.category).sum ≤ 8) (hf : cells ≤ R.cells ∧ slots ≤ R.slots)
    (hdg : decode cc pc = .ok (.invokevirtual idx, 3))
    (kk : ∀ (v : Option Value) (σ' : Nat → va_E) (H1 : Heap) (locs1 : List Loc), post v σ' → va_P D vwCl (g_W D σ') H1 → va_S (g_A D s.heap.size) s.heap H1 locs1 → W p l e R s m args below meth c H1 locs1 cells slots Q (F0 m (pc + 3) ls (v.toList ++ rest))) : W p l e R s m args below meth c H locs cells slots Q (F0 m pc ls st0) :=
  g_callV hx hb hml hown hts hE hZ hP hS hl hM k hq hσ hbq hc hcl hn hst hR hrest (by rw [h0.1, h0.2]; exact hf) hdg (by rw [h0.1, h0.2]; exact kk)
theorem g_callS0 {nl : Nat} {own : String} {st0 : List Value} {post : Option Value → (Nat → va_E) → Prop} {y : MethodName} {bytes : ByteArray} {maxL idx n : Nat} {ret : Option FieldType} {rm : Room} {As : List Value}
    (hx : p.tables.exec = Jvm.exec) (hb : c.code = cc) (hml : c.maxLocals = nl) (hown : s.vm.findClass own = some m.cls) (hts : ∀ w ∈ g_WA, w.before args s = true) (hE : g_EV D s) (hZ : g_EZ (g_A D s.heap.size) s s.heap) (hP : va_P D vwCl (g_W D σ) H) (hS : va_S (g_A D s.heap.size) s.heap H locs) (hl : ls.size = nl)
    (hM : g_M l D y bytes maxL ret rm As σ post) (k : g_kS own idx y bytes maxL ret n)
    (hn : As.length = n) (hst : st0 = As.reverse ++ rest) (h0 : rm.cells = 0 ∧ rm.slots = 0) (hR : rm.frames + 1 ≤ R.frames ∧ 8 + (maxL + 11) + rm.locals ≤ R.locals) (hrest : (rest.map fun v => v.category).sum ≤ 8) (hf : cells ≤ R.cells ∧ slots ≤ R.slots)
    (hdg : decode cc pc = .ok (.invokestatic idx, 3))
    (kk : ∀ (v : Option Value) (σ' : Nat → va_E) (H1 : Heap) (locs1 : List Loc), post v σ' → va_P D vwCl (g_W D σ') H1 → va_S (g_A D s.heap.size) s.heap H1 locs1 → W p l e R s m args below meth c H1 locs1 cells slots Q (F0 m (pc + 3) ls (v.toList ++ rest))) : W p l e R s m args below meth c H locs cells slots Q (F0 m pc ls st0) :=
  g_callS hx hb hml hown hts hE hZ hP hS hl hM k hn hst hR hrest (by rw [h0.1, h0.2]; exact hf) hdg (by rw [h0.1, h0.2]; exact kk)
theorem g_callN0 {nl : Nat} {own : String} {st0 : List Value} {post : Option Value → (Nat → va_E) → Prop} {y : MethodName} {bytes : ByteArray} {maxL idx n : Nat} {ret : Option FieldType} {rm : Room} {As : List Value}
    (hx : p.tables.exec = Jvm.exec) (hb : c.code = cc) (hml : c.maxLocals = nl) (hown : s.vm.findClass own = some m.cls) (hts : ∀ w ∈ g_WA, w.before args s = true) (hE : g_EV D s) (hZ : g_EZ (g_A D s.heap.size) s s.heap) (hP : va_P D vwCl (g_W D σ) H) (hS : va_S (g_A D s.heap.size) s.heap H locs) (hl : ls.size = nl)
    (hM : g_M l D y bytes maxL ret rm As σ post) (k : g_kN own idx y bytes maxL ret n)
    (hn : As.length = n) (hst : st0 = As.reverse ++ rest) (h0 : rm.cells = 0 ∧ rm.slots = 0) (hR : rm.frames + 1 ≤ R.frames ∧ 8 + (maxL + 11) + rm.locals ≤ R.locals) (hrest : (rest.map fun v => v.category).sum ≤ 8) (hf : cells ≤ R.cells ∧ slots ≤ R.slots)
    (hdg : decode cc pc = .ok (.invokestatic idx, 3))
    (kk : ∀ (v : Option Value) (σ' : Nat → va_E) (H1 : Heap) (locs1 : List Loc), post v σ' → va_P D vwCl (g_W D σ') H1 → va_S (g_A D s.heap.size) s.heap H1 locs1 → W p l e R s m args below meth c H1 locs1 cells slots Q (F0 m (pc + 3) ls (v.toList ++ rest))) : W p l e R s m args below meth c H locs cells slots Q (F0 m pc ls st0) :=
  g_callN hx hb hml hown hts hE hZ hP hS hl hM k hn hst hR hrest (by rw [h0.1, h0.2]; exact hf) hdg (by rw [h0.1, h0.2]; exact kk)
end GROWS
end
section
theorem kd_X2_checkWood : g_cd yX2_checkWood 1 := ⟨by decide +kernel, by decide +kernel, by decide +kernel⟩
theorem ki_X2_checkWood : Cond.initialized yX2_checkWood.cls ∈ g_WA := g_mem 32 (by decide +kernel)
theorem kc_X2_checkWood : Cond.code yX2_checkWood cX2_checkWood 1 none ∈ g_WA := g_mem 263 (by decide +kernel)
theorem ks_X2_checkWood : Cond.static yX2_checkWood ∈ g_WA := g_mem 262 (by decide +kernel)
theorem k_X2_29 : g_kS RX2 29 yX2_checkWood cX2_checkWood 1 none 1 := ⟨g_mem 261 (by decide +kernel), ks_X2_checkWood, ki_X2_checkWood, kc_X2_checkWood, kd_X2_checkWood⟩
theorem kd_X2_checkName : g_cd yX2_checkName 1 := ⟨by decide +kernel, by decide +kernel, by decide +kernel⟩
theorem ki_X2_checkName : Cond.initialized yX2_checkName.cls ∈ g_WA := g_mem 32 (by decide +kernel)
theorem kc_X2_checkName : Cond.code yX2_checkName cX2_checkName 1 none ∈ g_WA := g_mem 337 (by decide +kernel)
theorem ks_X2_checkName : Cond.static yX2_checkName ∈ g_WA := g_mem 336 (by decide +kernel)
theorem k_X2_33 : g_kS RX2 33 yX2_checkName cX2_checkName 1 none 1 := ⟨g_mem 335 (by decide +kernel), ks_X2_checkName, ki_X2_checkName, kc_X2_checkName, kd_X2_checkName⟩
theorem kd_X2_checkMiles : g_cd yX2_checkMiles 1 := ⟨by decide +kernel, by decide +kernel, by decide +kernel⟩
theorem ki_X2_checkMiles : Cond.initialized yX2_checkMiles.cls ∈ g_WA := g_mem 32 (by decide +kernel)
theorem kc_X2_checkMiles : Cond.code yX2_checkMiles cX2_checkMiles 1 none ∈ g_WA := g_mem 357 (by decide +kernel)
theorem ks_X2_checkMiles : Cond.static yX2_checkMiles ∈ g_WA := g_mem 356 (by decide +kernel)
theorem k_X2_36 : g_kS RX2 36 yX2_checkMiles cX2_checkMiles 1 none 1 := ⟨g_mem 355 (by decide +kernel), ks_X2_checkMiles, ki_X2_checkMiles, kc_X2_checkMiles, kd_X2_checkMiles⟩
theorem kd_X2_villagesOf : g_cd yX2_villagesOf 1 := ⟨by decide +kernel, by decide +kernel, by decide +kernel⟩
theorem ki_X2_villagesOf : Cond.initialized yX2_villagesOf.cls ∈ g_WA := g_mem 32 (by decide +kernel)
theorem kc_X2_villagesOf : Cond.code yX2_villagesOf cX2_villagesOf 2 (some (.object "FingerPosts$Villages")) ∈ g_WA := g_mem 362 (by decide +kernel)
theorem kn_X2_villagesOf : Cond.instanceMethod yX2_villagesOf ∈ g_WA := g_mem 361 (by decide +kernel)
theorem kl_X2_villagesOf : Cond.selects yX2_villagesOf.cls yX2_villagesOf yX2_villagesOf ∈ g_WA := g_mem 8 (by decide +kernel)
theorem k_X2_39 : g_kV RX2 39 yX2_villagesOf cX2_villagesOf 2 (some (.object "FingerPosts$Villages")) 1 := ⟨g_mem 359 (by decide +kernel), kn_X2_villagesOf, kl_X2_villagesOf, ki_X2_villagesOf, kc_X2_villagesOf, kd_X2_villagesOf⟩
theorem kd_X1_milesOf : g_cd yX1_milesOf 1 := ⟨by decide +kernel, by decide +kernel, by decide +kernel⟩
theorem ki_X1_milesOf : Cond.initialized yX1_milesOf.cls ∈ g_WA := g_mem 33 (by decide +kernel)
theorem kc_X1_milesOf : Cond.code yX1_milesOf cX1_milesOf 3 (some .int) ∈ g_WA := g_mem 366 (by decide +kernel)
theorem kn_X1_milesOf : Cond.instanceMethod yX1_milesOf ∈ g_WA := g_mem 364 (by decide +kernel)
theorem kl_X1_milesOf : Cond.selects yX1_milesOf.cls yX1_milesOf yX1_milesOf ∈ g_WA := g_mem 365 (by decide +kernel)
theorem k_X2_43 : g_kV RX2 43 yX1_milesOf cX1_milesOf 3 (some .int) 1 := ⟨g_mem 363 (by decide +kernel), kn_X1_milesOf, kl_X1_milesOf, ki_X1_milesOf, kc_X1_milesOf, kd_X1_milesOf⟩
theorem kd_X1_size : g_cd yX1_size 0 := ⟨by decide +kernel, by decide +kernel, by decide +kernel⟩
theorem ki_X1_size : Cond.initialized yX1_size.cls ∈ g_WA := g_mem 33 (by decide +kernel)
theorem kc_X1_size : Cond.code yX1_size cX1_size 1 (some .int) ∈ g_WA := g_mem 136 (by decide +kernel)
theorem kn_X1_size : Cond.instanceMethod yX1_size ∈ g_WA := g_mem 134 (by decide +kernel)
theorem kl_X1_size : Cond.selects yX1_size.cls yX1_size yX1_size ∈ g_WA := g_mem 135 (by decide +kernel)
theorem k_X2_47 : g_kV RX2 47 yX1_size cX1_size 1 (some .int) 0 := ⟨g_mem 169 (by decide +kernel), kn_X1_size, kl_X1_size, ki_X1_size, kc_X1_size, kd_X1_size⟩
theorem kd_X1_set : g_cd yX1_set 2 := ⟨by decide +kernel, by decide +kernel, by decide +kernel⟩
theorem ki_X1_set : Cond.initialized yX1_set.cls ∈ g_WA := g_mem 33 (by decide +kernel)
theorem kc_X1_set : Cond.code yX1_set cX1_set 4 none ∈ g_WA := g_mem 241 (by decide +kernel)
theorem kn_X1_set : Cond.instanceMethod yX1_set ∈ g_WA := g_mem 239 (by decide +kernel)
theorem kl_X1_set : Cond.selects yX1_set.cls yX1_set yX1_set ∈ g_WA := g_mem 240 (by decide +kernel)
theorem k_X2_58 : g_kV RX2 58 yX1_set cX1_set 4 none 2 := ⟨g_mem 383 (by decide +kernel), kn_X1_set, kl_X1_set, ki_X1_set, kc_X1_set, kd_X1_set⟩
theorem kd_X1_removeName : g_cd yX1_removeName 1 := ⟨by decide +kernel, by decide +kernel, by decide +kernel⟩
theorem ki_X1_removeName : Cond.initialized yX1_removeName.cls ∈ g_WA := g_mem 33 (by decide +kernel)
theorem kc_X1_removeName : Cond.code yX1_removeName cX1_removeName 3 none ∈ g_WA := g_mem 395 (by decide +kernel)
theorem kn_X1_removeName : Cond.instanceMethod yX1_removeName ∈ g_WA := g_mem 393 (by decide +kernel)
theorem kl_X1_removeName : Cond.selects yX1_removeName.cls yX1_removeName yX1_removeName ∈ g_WA := g_mem 394 (by decide +kernel)
theorem k_X2_64 : g_kV RX2 64 yX1_removeName cX1_removeName 3 none 1 := ⟨g_mem 392 (by decide +kernel), kn_X1_removeName, kl_X1_removeName, ki_X1_removeName, kc_X1_removeName, kd_X1_removeName⟩
theorem kd_X2_checkIndex : g_cd yX2_checkIndex 2 := ⟨by decide +kernel, by decide +kernel, by decide +kernel⟩
theorem ki_X2_checkIndex : Cond.initialized yX2_checkIndex.cls ∈ g_WA := g_mem 32 (by decide +kernel)
theorem kc_X2_checkIndex : Cond.code yX2_checkIndex cX2_checkIndex 2 none ∈ g_WA := g_mem 266 (by decide +kernel)
theorem ks_X2_checkIndex : Cond.static yX2_checkIndex ∈ g_WA := g_mem 265 (by decide +kernel)
theorem k_X2_67 : g_kS RX2 67 yX2_checkIndex cX2_checkIndex 2 none 2 := ⟨g_mem 264 (by decide +kernel), ks_X2_checkIndex, ki_X2_checkIndex, kc_X2_checkIndex, kd_X2_checkIndex⟩
theorem kd_X2_otherThan : g_cd yX2_otherThan 1 := ⟨by decide +kernel, by decide +kernel, by decide +kernel⟩
theorem ki_X2_otherThan : Cond.initialized yX2_otherThan.cls ∈ g_WA := g_mem 32 (by decide +kernel)
theorem kc_X2_otherThan : Cond.code yX2_otherThan cX2_otherThan 2 (some (.object "FingerPosts$Villages")) ∈ g_WA := g_mem 406 (by decide +kernel)
theorem kn_X2_otherThan : Cond.instanceMethod yX2_otherThan ∈ g_WA := g_mem 405 (by decide +kernel)
theorem kl_X2_otherThan : Cond.selects yX2_otherThan.cls yX2_otherThan yX2_otherThan ∈ g_WA := g_mem 9 (by decide +kernel)
theorem k_X2_70 : g_kV RX2 70 yX2_otherThan cX2_otherThan 2 (some (.object "FingerPosts$Villages")) 1 := ⟨g_mem 403 (by decide +kernel), kn_X2_otherThan, kl_X2_otherThan, ki_X2_otherThan, kc_X2_otherThan, kd_X2_otherThan⟩
theorem kd_X1_namesAlsoIn : g_cd yX1_namesAlsoIn 1 := ⟨by decide +kernel, by decide +kernel, by decide +kernel⟩
theorem ki_X1_namesAlsoIn : Cond.initialized yX1_namesAlsoIn.cls ∈ g_WA := g_mem 33 (by decide +kernel)
theorem kc_X1_namesAlsoIn : Cond.code yX1_namesAlsoIn cX1_namesAlsoIn 4 (some .int) ∈ g_WA := g_mem 410 (by decide +kernel)
theorem kn_X1_namesAlsoIn : Cond.instanceMethod yX1_namesAlsoIn ∈ g_WA := g_mem 408 (by decide +kernel)
theorem kl_X1_namesAlsoIn : Cond.selects yX1_namesAlsoIn.cls yX1_namesAlsoIn yX1_namesAlsoIn ∈ g_WA := g_mem 409 (by decide +kernel)
theorem k_X2_73 : g_kV RX2 73 yX1_namesAlsoIn cX1_namesAlsoIn 4 (some .int) 1 := ⟨g_mem 407 (by decide +kernel), kn_X1_namesAlsoIn, kl_X1_namesAlsoIn, ki_X1_namesAlsoIn, kc_X1_namesAlsoIn, kd_X1_namesAlsoIn⟩
theorem kd_X1_nameAt : g_cd yX1_nameAt 1 := ⟨by decide +kernel, by decide +kernel, by decide +kernel⟩
theorem ki_X1_nameAt : Cond.initialized yX1_nameAt.cls ∈ g_WA := g_mem 33 (by decide +kernel)
theorem kc_X1_nameAt : Cond.code yX1_nameAt cX1_nameAt 2 (some .int) ∈ g_WA := g_mem 154 (by decide +kernel)
theorem kn_X1_nameAt : Cond.instanceMethod yX1_nameAt ∈ g_WA := g_mem 152 (by decide +kernel)
theorem kl_X1_nameAt : Cond.selects yX1_nameAt.cls yX1_nameAt yX1_nameAt ∈ g_WA := g_mem 153 (by decide +kernel)
theorem k_X2_79 : g_kV RX2 79 yX1_nameAt cX1_nameAt 2 (some .int) 1 := ⟨g_mem 413 (by decide +kernel), kn_X1_nameAt, kl_X1_nameAt, ki_X1_nameAt, kc_X1_nameAt, kd_X1_nameAt⟩
theorem kd_X1_milesAt : g_cd yX1_milesAt 1 := ⟨by decide +kernel, by decide +kernel, by decide +kernel⟩
theorem ki_X1_milesAt : Cond.initialized yX1_milesAt.cls ∈ g_WA := g_mem 33 (by decide +kernel)
theorem kc_X1_milesAt : Cond.code yX1_milesAt cX1_milesAt 2 (some .int) ∈ g_WA := g_mem 206 (by decide +kernel)
theorem kn_X1_milesAt : Cond.instanceMethod yX1_milesAt ∈ g_WA := g_mem 204 (by decide +kernel)
theorem kl_X1_milesAt : Cond.selects yX1_milesAt.cls yX1_milesAt yX1_milesAt ∈ g_WA := g_mem 205 (by decide +kernel)
theorem k_X2_82 : g_kV RX2 82 yX1_milesAt cX1_milesAt 2 (some .int) 1 := ⟨g_mem 224 (by decide +kernel), kn_X1_milesAt, kl_X1_milesAt, ki_X1_milesAt, kc_X1_milesAt, kd_X1_milesAt⟩
theorem kd_X2_mergedMiles : g_cd yX2_mergedMiles 3 := ⟨by decide +kernel, by decide +kernel, by decide +kernel⟩
theorem ki_X2_mergedMiles : Cond.initialized yX2_mergedMiles.cls ∈ g_WA := g_mem 32 (by decide +kernel)
theorem kc_X2_mergedMiles : Cond.code yX2_mergedMiles cX2_mergedMiles 3 (some .int) ∈ g_WA := g_mem 416 (by decide +kernel)
theorem ks_X2_mergedMiles : Cond.static yX2_mergedMiles ∈ g_WA := g_mem 415 (by decide +kernel)
theorem k_X2_85 : g_kS RX2 85 yX2_mergedMiles cX2_mergedMiles 3 (some .int) 3 := ⟨g_mem 414 (by decide +kernel), ks_X2_mergedMiles, ki_X2_mergedMiles, kc_X2_mergedMiles, kd_X2_mergedMiles⟩
theorem kd_X1_keepFirst : g_cd yX1_keepFirst 1 := ⟨by decide +kernel, by decide +kernel, by decide +kernel⟩
theorem ki_X1_keepFirst : Cond.initialized yX1_keepFirst.cls ∈ g_WA := g_mem 33 (by decide +kernel)
theorem kc_X1_keepFirst : Cond.code yX1_keepFirst cX1_keepFirst 2 none ∈ g_WA := g_mem 232 (by decide +kernel)
theorem kn_X1_keepFirst : Cond.instanceMethod yX1_keepFirst ∈ g_WA := g_mem 230 (by decide +kernel)
theorem kl_X1_keepFirst : Cond.selects yX1_keepFirst.cls yX1_keepFirst yX1_keepFirst ∈ g_WA := g_mem 231 (by decide +kernel)
theorem k_X2_89 : g_kV RX2 89 yX1_keepFirst cX1_keepFirst 2 none 1 := ⟨g_mem 229 (by decide +kernel), kn_X1_keepFirst, kl_X1_keepFirst, ki_X1_keepFirst, kc_X1_keepFirst, kd_X1_keepFirst⟩
theorem kd_X1_smallerThan : g_cd yX1_smallerThan 1 := ⟨by decide +kernel, by decide +kernel, by decide +kernel⟩
theorem ki_X1_smallerThan : Cond.initialized yX1_smallerThan.cls ∈ g_WA := g_mem 33 (by decide +kernel)
theorem kc_X1_smallerThan : Cond.code yX1_smallerThan cX1_smallerThan 3 (some .int) ∈ g_WA := g_mem 245 (by decide +kernel)
theorem kn_X1_smallerThan : Cond.instanceMethod yX1_smallerThan ∈ g_WA := g_mem 243 (by decide +kernel)
theorem kl_X1_smallerThan : Cond.selects yX1_smallerThan.cls yX1_smallerThan yX1_smallerThan ∈ g_WA := g_mem 244 (by decide +kernel)
theorem k_X2_94 : g_kV RX2 94 yX1_smallerThan cX1_smallerThan 3 (some .int) 1 := ⟨g_mem 428 (by decide +kernel), kn_X1_smallerThan, kl_X1_smallerThan, ki_X1_smallerThan, kc_X1_smallerThan, kd_X1_smallerThan⟩
theorem kd_X2_checkNotEmpty : g_cd yX2_checkNotEmpty 1 := ⟨by decide +kernel, by decide +kernel, by decide +kernel⟩
theorem ki_X2_checkNotEmpty : Cond.initialized yX2_checkNotEmpty.cls ∈ g_WA := g_mem 32 (by decide +kernel)
theorem kc_X2_checkNotEmpty : Cond.code yX2_checkNotEmpty cX2_checkNotEmpty 1 none ∈ g_WA := g_mem 438 (by decide +kernel)
theorem ks_X2_checkNotEmpty : Cond.static yX2_checkNotEmpty ∈ g_WA := g_mem 437 (by decide +kernel)
theorem k_X2_97 : g_kS RX2 97 yX2_checkNotEmpty cX2_checkNotEmpty 1 none 1 := ⟨g_mem 436 (by decide +kernel), ks_X2_checkNotEmpty, ki_X2_checkNotEmpty, kc_X2_checkNotEmpty, kd_X2_checkNotEmpty⟩
theorem kd_X1_changeBits : g_cd yX1_changeBits 1 := ⟨by decide +kernel, by decide +kernel, by decide +kernel⟩
theorem ki_X1_changeBits : Cond.initialized yX1_changeBits.cls ∈ g_WA := g_mem 33 (by decide +kernel)
theorem kc_X1_changeBits : Cond.code yX1_changeBits cX1_changeBits 4 none ∈ g_WA := g_mem 443 (by decide +kernel)
theorem kn_X1_changeBits : Cond.instanceMethod yX1_changeBits ∈ g_WA := g_mem 441 (by decide +kernel)
theorem kl_X1_changeBits : Cond.selects yX1_changeBits.cls yX1_changeBits yX1_changeBits ∈ g_WA := g_mem 442 (by decide +kernel)
theorem k_X2_101 : g_kV RX2 101 yX1_changeBits cX1_changeBits 4 none 1 := ⟨g_mem 440 (by decide +kernel), kn_X1_changeBits, kl_X1_changeBits, ki_X1_changeBits, kc_X1_changeBits, kd_X1_changeBits⟩
theorem kd_X0_fill : g_cd yX0_fill 1 := ⟨by decide +kernel, by decide +kernel, by decide +kernel⟩
theorem ki_X0_fill : Cond.initialized yX0_fill.cls ∈ g_WA := g_mem 34 (by decide +kernel)
theorem kc_X0_fill : Cond.code yX0_fill cX0_fill 4 none ∈ g_WA := g_mem 132 (by decide +kernel)
theorem kn_X0_fill : Cond.instanceMethod yX0_fill ∈ g_WA := g_mem 130 (by decide +kernel)
theorem kl_X0_fill : Cond.selects yX0_fill.cls yX0_fill yX0_fill ∈ g_WA := g_mem 131 (by decide +kernel)
theorem k_X2_104 : g_kV RX2 104 yX0_fill cX0_fill 4 none 1 := ⟨g_mem 129 (by decide +kernel), kn_X0_fill, kl_X0_fill, ki_X0_fill, kc_X0_fill, kd_X0_fill⟩
theorem kd_X2_countOf : g_cd yX2_countOf 3 := ⟨by decide +kernel, by decide +kernel, by decide +kernel⟩
theorem ki_X2_countOf : Cond.initialized yX2_countOf.cls ∈ g_WA := g_mem 32 (by decide +kernel)
theorem kc_X2_countOf : Cond.code yX2_countOf cX2_countOf 3 (some .int) ∈ g_WA := g_mem 168 (by decide +kernel)
theorem ks_X2_countOf : Cond.static yX2_countOf ∈ g_WA := g_mem 167 (by decide +kernel)
theorem k_X2_107 : g_kS RX2 107 yX2_countOf cX2_countOf 3 (some .int) 3 := ⟨g_mem 166 (by decide +kernel), ks_X2_countOf, ki_X2_countOf, kc_X2_countOf, kd_X2_countOf⟩
theorem kd_X0_size : g_cd yX0_size 0 := ⟨by decide +kernel, by decide +kernel, by decide +kernel⟩
theorem ki_X0_size : Cond.initialized yX0_size.cls ∈ g_WA := g_mem 34 (by decide +kernel)
theorem kc_X0_size : Cond.code yX0_size cX0_size 1 (some .int) ∈ g_WA := g_mem 219 (by decide +kernel)
theorem kn_X0_size : Cond.instanceMethod yX0_size ∈ g_WA := g_mem 217 (by decide +kernel)
theorem kl_X0_size : Cond.selects yX0_size.cls yX0_size yX0_size ∈ g_WA := g_mem 218 (by decide +kernel)
theorem k_X2_111 : g_kV RX2 111 yX0_size cX0_size 1 (some .int) 0 := ⟨g_mem 216 (by decide +kernel), kn_X0_size, kl_X0_size, ki_X0_size, kc_X0_size, kd_X0_size⟩
theorem kd_X0_tell : g_cd yX0_tell 2 := ⟨by decide +kernel, by decide +kernel, by decide +kernel⟩
theorem ki_X0_tell : Cond.initialized yX0_tell.cls ∈ g_WA := g_mem 34 (by decide +kernel)
theorem kc_X0_tell : Cond.code yX0_tell cX0_tell 3 (some .int) ∈ g_WA := g_mem 223 (by decide +kernel)
theorem kn_X0_tell : Cond.instanceMethod yX0_tell ∈ g_WA := g_mem 221 (by decide +kernel)
theorem kl_X0_tell : Cond.selects yX0_tell.cls yX0_tell yX0_tell ∈ g_WA := g_mem 222 (by decide +kernel)
theorem k_X2_112 : g_kV RX2 112 yX0_tell cX0_tell 3 (some .int) 2 := ⟨g_mem 220 (by decide +kernel), kn_X0_tell, kl_X0_tell, ki_X0_tell, kc_X0_tell, kd_X0_tell⟩
theorem kd_X0_tellWalk : g_cd yX0_tellWalk 2 := ⟨by decide +kernel, by decide +kernel, by decide +kernel⟩
theorem ki_X0_tellWalk : Cond.initialized yX0_tellWalk.cls ∈ g_WA := g_mem 34 (by decide +kernel)
theorem kc_X0_tellWalk : Cond.code yX0_tellWalk cX0_tellWalk 4 (some .int) ∈ g_WA := g_mem 476 (by decide +kernel)
theorem kn_X0_tellWalk : Cond.instanceMethod yX0_tellWalk ∈ g_WA := g_mem 474 (by decide +kernel)
theorem kl_X0_tellWalk : Cond.selects yX0_tellWalk.cls yX0_tellWalk yX0_tellWalk ∈ g_WA := g_mem 475 (by decide +kernel)
theorem k_X2_116 : g_kV RX2 116 yX0_tellWalk cX0_tellWalk 4 (some .int) 2 := ⟨g_mem 473 (by decide +kernel), kn_X0_tellWalk, kl_X0_tellWalk, ki_X0_tellWalk, kc_X0_tellWalk, kd_X0_tellWalk⟩
theorem kd_X1_addedMiles : g_cd yX1_addedMiles 2 := ⟨by decide +kernel, by decide +kernel, by decide +kernel⟩
theorem ki_X1_addedMiles : Cond.initialized yX1_addedMiles.cls ∈ g_WA := g_mem 33 (by decide +kernel)
theorem kc_X1_addedMiles : Cond.code yX1_addedMiles cX1_addedMiles 5 (some .int) ∈ g_WA := g_mem 202 (by decide +kernel)
theorem kn_X1_addedMiles : Cond.instanceMethod yX1_addedMiles ∈ g_WA := g_mem 200 (by decide +kernel)
theorem kl_X1_addedMiles : Cond.selects yX1_addedMiles.cls yX1_addedMiles yX1_addedMiles ∈ g_WA := g_mem 201 (by decide +kernel)
theorem k_X2_124 : g_kV RX2 124 yX1_addedMiles cX1_addedMiles 5 (some .int) 2 := ⟨g_mem 199 (by decide +kernel), kn_X1_addedMiles, kl_X1_addedMiles, ki_X1_addedMiles, kc_X1_addedMiles, kd_X1_addedMiles⟩
theorem kd_X1_sharedBits : g_cd yX1_sharedBits 2 := ⟨by decide +kernel, by decide +kernel, by decide +kernel⟩
theorem ki_X1_sharedBits : Cond.initialized yX1_sharedBits.cls ∈ g_WA := g_mem 33 (by decide +kernel)
theorem kc_X1_sharedBits : Cond.code yX1_sharedBits cX1_sharedBits 3 (some .int) ∈ g_WA := g_mem 192 (by decide +kernel)
theorem kn_X1_sharedBits : Cond.instanceMethod yX1_sharedBits ∈ g_WA := g_mem 190 (by decide +kernel)
theorem kl_X1_sharedBits : Cond.selects yX1_sharedBits.cls yX1_sharedBits yX1_sharedBits ∈ g_WA := g_mem 191 (by decide +kernel)
theorem k_X2_127 : g_kV RX2 127 yX1_sharedBits cX1_sharedBits 3 (some .int) 2 := ⟨g_mem 189 (by decide +kernel), kn_X1_sharedBits, kl_X1_sharedBits, ki_X1_sharedBits, kc_X1_sharedBits, kd_X1_sharedBits⟩
theorem kd_X1_mostMiles : g_cd yX1_mostMiles 2 := ⟨by decide +kernel, by decide +kernel, by decide +kernel⟩
theorem ki_X1_mostMiles : Cond.initialized yX1_mostMiles.cls ∈ g_WA := g_mem 33 (by decide +kernel)
theorem kc_X1_mostMiles : Cond.code yX1_mostMiles cX1_mostMiles 5 (some .int) ∈ g_WA := g_mem 506 (by decide +kernel)
theorem kn_X1_mostMiles : Cond.instanceMethod yX1_mostMiles ∈ g_WA := g_mem 504 (by decide +kernel)
theorem kl_X1_mostMiles : Cond.selects yX1_mostMiles.cls yX1_mostMiles yX1_mostMiles ∈ g_WA := g_mem 505 (by decide +kernel)
theorem k_X2_130 : g_kV RX2 130 yX1_mostMiles cX1_mostMiles 5 (some .int) 2 := ⟨g_mem 503 (by decide +kernel), kn_X1_mostMiles, kl_X1_mostMiles, ki_X1_mostMiles, kc_X1_mostMiles, kd_X1_mostMiles⟩
theorem kd_X1_nearest : g_cd yX1_nearest 1 := ⟨by decide +kernel, by decide +kernel, by decide +kernel⟩
theorem ki_X1_nearest : Cond.initialized yX1_nearest.cls ∈ g_WA := g_mem 33 (by decide +kernel)
theorem kc_X1_nearest : Cond.code yX1_nearest cX1_nearest 4 (some .int) ∈ g_WA := g_mem 517 (by decide +kernel)
theorem kn_X1_nearest : Cond.instanceMethod yX1_nearest ∈ g_WA := g_mem 515 (by decide +kernel)
theorem kl_X1_nearest : Cond.selects yX1_nearest.cls yX1_nearest yX1_nearest ∈ g_WA := g_mem 516 (by decide +kernel)
theorem k_X2_133 : g_kV RX2 133 yX1_nearest cX1_nearest 4 (some .int) 1 := ⟨g_mem 514 (by decide +kernel), kn_X1_nearest, kl_X1_nearest, ki_X1_nearest, kc_X1_nearest, kd_X1_nearest⟩
theorem kd_X1_farthest : g_cd yX1_farthest 0 := ⟨by decide +kernel, by decide +kernel, by decide +kernel⟩
theorem ki_X1_farthest : Cond.initialized yX1_farthest.cls ∈ g_WA := g_mem 33 (by decide +kernel)
theorem kc_X1_farthest : Cond.code yX1_farthest cX1_farthest 4 (some .int) ∈ g_WA := g_mem 214 (by decide +kernel)
theorem kn_X1_farthest : Cond.instanceMethod yX1_farthest ∈ g_WA := g_mem 212 (by decide +kernel)
theorem kl_X1_farthest : Cond.selects yX1_farthest.cls yX1_farthest yX1_farthest ∈ g_WA := g_mem 213 (by decide +kernel)
theorem k_X2_136 : g_kV RX2 136 yX1_farthest cX1_farthest 4 (some .int) 0 := ⟨g_mem 211 (by decide +kernel), kn_X1_farthest, kl_X1_farthest, ki_X1_farthest, kc_X1_farthest, kd_X1_farthest⟩
theorem kd_X2_firstUnlikeBit : g_cd yX2_firstUnlikeBit 2 := ⟨by decide +kernel, by decide +kernel, by decide +kernel⟩
theorem ki_X2_firstUnlikeBit : Cond.initialized yX2_firstUnlikeBit.cls ∈ g_WA := g_mem 32 (by decide +kernel)
theorem kc_X2_firstUnlikeBit : Cond.code yX2_firstUnlikeBit cX2_firstUnlikeBit 5 (some .int) ∈ g_WA := g_mem 158 (by decide +kernel)
theorem ks_X2_firstUnlikeBit : Cond.static yX2_firstUnlikeBit ∈ g_WA := g_mem 157 (by decide +kernel)
theorem k_X2_139 : g_kS RX2 139 yX2_firstUnlikeBit cX2_firstUnlikeBit 5 (some .int) 2 := ⟨g_mem 532 (by decide +kernel), ks_X2_firstUnlikeBit, ki_X2_firstUnlikeBit, kc_X2_firstUnlikeBit, kd_X2_firstUnlikeBit⟩
theorem kd_X2_fillBoth : g_cd yX2_fillBoth 0 := ⟨by decide +kernel, by decide +kernel, by decide +kernel⟩
theorem ki_X2_fillBoth : Cond.initialized yX2_fillBoth.cls ∈ g_WA := g_mem 32 (by decide +kernel)
theorem kc_X2_fillBoth : Cond.code yX2_fillBoth cX2_fillBoth 1 none ∈ g_WA := g_mem 228 (by decide +kernel)
theorem kn_X2_fillBoth : Cond.instanceMethod yX2_fillBoth ∈ g_WA := g_mem 227 (by decide +kernel)
theorem kl_X2_fillBoth : Cond.selects yX2_fillBoth.cls yX2_fillBoth yX2_fillBoth ∈ g_WA := g_mem 5 (by decide +kernel)
theorem k_X2_142 : g_kV RX2 142 yX2_fillBoth cX2_fillBoth 1 none 0 := ⟨g_mem 225 (by decide +kernel), kn_X2_fillBoth, kl_X2_fillBoth, ki_X2_fillBoth, kc_X2_fillBoth, kd_X2_fillBoth⟩
theorem kd_X0_bestGivenUp : g_cd yX0_bestGivenUp 0 := ⟨by decide +kernel, by decide +kernel, by decide +kernel⟩
theorem ki_X0_bestGivenUp : Cond.initialized yX0_bestGivenUp.cls ∈ g_WA := g_mem 34 (by decide +kernel)
theorem kc_X0_bestGivenUp : Cond.code yX0_bestGivenUp cX0_bestGivenUp 5 (some .int) ∈ g_WA := g_mem 550 (by decide +kernel)
theorem kn_X0_bestGivenUp : Cond.instanceMethod yX0_bestGivenUp ∈ g_WA := g_mem 548 (by decide +kernel)
theorem kl_X0_bestGivenUp : Cond.selects yX0_bestGivenUp.cls yX0_bestGivenUp yX0_bestGivenUp ∈ g_WA := g_mem 549 (by decide +kernel)
theorem k_X2_145 : g_kV RX2 145 yX0_bestGivenUp cX0_bestGivenUp 5 (some .int) 0 := ⟨g_mem 547 (by decide +kernel), kn_X0_bestGivenUp, kl_X0_bestGivenUp, ki_X0_bestGivenUp, kc_X0_bestGivenUp, kd_X0_bestGivenUp⟩
theorem kd_X0_addedPaths : g_cd yX0_addedPaths 0 := ⟨by decide +kernel, by decide +kernel, by decide +kernel⟩
theorem ki_X0_addedPaths : Cond.initialized yX0_addedPaths.cls ∈ g_WA := g_mem 34 (by decide +kernel)
theorem kc_X0_addedPaths : Cond.code yX0_addedPaths cX0_addedPaths 3 (some .int) ∈ g_WA := g_mem 188 (by decide +kernel)
theorem kn_X0_addedPaths : Cond.instanceMethod yX0_addedPaths ∈ g_WA := g_mem 186 (by decide +kernel)
theorem kl_X0_addedPaths : Cond.selects yX0_addedPaths.cls yX0_addedPaths yX0_addedPaths ∈ g_WA := g_mem 187 (by decide +kernel)
theorem k_X2_148 : g_kV RX2 148 yX0_addedPaths cX0_addedPaths 3 (some .int) 0 := ⟨g_mem 185 (by decide +kernel), kn_X0_addedPaths, kl_X0_addedPaths, ki_X0_addedPaths, kc_X0_addedPaths, kd_X0_addedPaths⟩
theorem kd_X2_digestOfWood : g_cd yX2_digestOfWood 2 := ⟨by decide +kernel, by decide +kernel, by decide +kernel⟩
theorem ki_X2_digestOfWood : Cond.initialized yX2_digestOfWood.cls ∈ g_WA := g_mem 32 (by decide +kernel)
theorem kc_X2_digestOfWood : Cond.code yX2_digestOfWood cX2_digestOfWood 8 (some .long) ∈ g_WA := g_mem 128 (by decide +kernel)
theorem kn_X2_digestOfWood : Cond.instanceMethod yX2_digestOfWood ∈ g_WA := g_mem 127 (by decide +kernel)
theorem kl_X2_digestOfWood : Cond.selects yX2_digestOfWood.cls yX2_digestOfWood yX2_digestOfWood ∈ g_WA := g_mem 0 (by decide +kernel)
theorem k_X2_153 : g_kV RX2 153 yX2_digestOfWood cX2_digestOfWood 8 (some .long) 2 := ⟨g_mem 125 (by decide +kernel), kn_X2_digestOfWood, kl_X2_digestOfWood, ki_X2_digestOfWood, kc_X2_digestOfWood, kd_X2_digestOfWood⟩
theorem kd_X2_digested : g_cd yX2_digested 2 := ⟨by decide +kernel, by decide +kernel, by decide +kernel⟩
theorem ki_X2_digested : Cond.initialized yX2_digested.cls ∈ g_WA := g_mem 32 (by decide +kernel)
theorem kc_X2_digested : Cond.code yX2_digested cX2_digested 3 (some .long) ∈ g_WA := g_mem 209 (by decide +kernel)
theorem ks_X2_digested : Cond.static yX2_digested ∈ g_WA := g_mem 208 (by decide +kernel)
theorem k_X2_157 : g_kS RX2 157 yX2_digested cX2_digested 3 (some .long) 2 := ⟨g_mem 207 (by decide +kernel), ks_X2_digested, ki_X2_digested, kc_X2_digested, kd_X2_digested⟩
theorem kd_X1_setAll : g_cd yX1_setAll 1 := ⟨by decide +kernel, by decide +kernel, by decide +kernel⟩
theorem ki_X1_setAll : Cond.initialized yX1_setAll.cls ∈ g_WA := g_mem 33 (by decide +kernel)
theorem kc_X1_setAll : Cond.code yX1_setAll cX1_setAll 3 none ∈ g_WA := g_mem 236 (by decide +kernel)
theorem kn_X1_setAll : Cond.instanceMethod yX1_setAll ∈ g_WA := g_mem 234 (by decide +kernel)
theorem kl_X1_setAll : Cond.selects yX1_setAll.cls yX1_setAll yX1_setAll ∈ g_WA := g_mem 235 (by decide +kernel)
theorem k_X2_163 : g_kV RX2 163 yX1_setAll cX1_setAll 3 none 1 := ⟨g_mem 233 (by decide +kernel), kn_X1_setAll, kl_X1_setAll, ki_X1_setAll, kc_X1_setAll, kd_X1_setAll⟩
theorem kd_X0_postCount : g_cd yX0_postCount 0 := ⟨by decide +kernel, by decide +kernel, by decide +kernel⟩
theorem ki_X0_postCount : Cond.initialized yX0_postCount.cls ∈ g_WA := g_mem 34 (by decide +kernel)
theorem kc_X0_postCount : Cond.code yX0_postCount cX0_postCount 3 (some .int) ∈ g_WA := g_mem 173 (by decide +kernel)
theorem kn_X0_postCount : Cond.instanceMethod yX0_postCount ∈ g_WA := g_mem 171 (by decide +kernel)
theorem kl_X0_postCount : Cond.selects yX0_postCount.cls yX0_postCount yX0_postCount ∈ g_WA := g_mem 172 (by decide +kernel)
theorem k_X2_166 : g_kV RX2 166 yX0_postCount cX0_postCount 3 (some .int) 0 := ⟨g_mem 170 (by decide +kernel), kn_X0_postCount, kl_X0_postCount, ki_X0_postCount, kc_X0_postCount, kd_X0_postCount⟩
theorem kd_X0_longestPath : g_cd yX0_longestPath 0 := ⟨by decide +kernel, by decide +kernel, by decide +kernel⟩
theorem ki_X0_longestPath : Cond.initialized yX0_longestPath.cls ∈ g_WA := g_mem 34 (by decide +kernel)
theorem kc_X0_longestPath : Cond.code yX0_longestPath cX0_longestPath 3 (some .int) ∈ g_WA := g_mem 181 (by decide +kernel)
theorem kn_X0_longestPath : Cond.instanceMethod yX0_longestPath ∈ g_WA := g_mem 179 (by decide +kernel)
theorem kl_X0_longestPath : Cond.selects yX0_longestPath.cls yX0_longestPath yX0_longestPath ∈ g_WA := g_mem 180 (by decide +kernel)
theorem k_X2_169 : g_kV RX2 169 yX0_longestPath cX0_longestPath 3 (some .int) 0 := ⟨g_mem 178 (by decide +kernel), kn_X0_longestPath, kl_X0_longestPath, ki_X0_longestPath, kc_X0_longestPath, kd_X0_longestPath⟩
theorem kd_X0_postBits : g_cd yX0_postBits 0 := ⟨by decide +kernel, by decide +kernel, by decide +kernel⟩
theorem ki_X0_postBits : Cond.initialized yX0_postBits.cls ∈ g_WA := g_mem 34 (by decide +kernel)
theorem kc_X0_postBits : Cond.code yX0_postBits cX0_postBits 3 (some .int) ∈ g_WA := g_mem 198 (by decide +kernel)
theorem kn_X0_postBits : Cond.instanceMethod yX0_postBits ∈ g_WA := g_mem 196 (by decide +kernel)
theorem kl_X0_postBits : Cond.selects yX0_postBits.cls yX0_postBits yX0_postBits ∈ g_WA := g_mem 197 (by decide +kernel)
theorem k_X2_172 : g_kV RX2 172 yX0_postBits cX0_postBits 3 (some .int) 0 := ⟨g_mem 195 (by decide +kernel), kn_X0_postBits, kl_X0_postBits, ki_X0_postBits, kc_X0_postBits, kd_X0_postBits⟩
theorem k_X2_175 : Cond.methodLink RX2 175 Lib.Math.min.name ∈ g_WA := g_mem 417 (by decide +kernel)
theorem k_X0_43 : g_kV RX0 43 yX1_size cX1_size 1 (some .int) 0 := ⟨g_mem 133 (by decide +kernel), kn_X1_size, kl_X1_size, ki_X1_size, kc_X1_size, kd_X1_size⟩
theorem kd_X0_begin : g_cd yX0_begin 5 := ⟨by decide +kernel, by decide +kernel, by decide +kernel⟩
theorem ki_X0_begin : Cond.initialized yX0_begin.cls ∈ g_WA := g_mem 34 (by decide +kernel)
theorem kc_X0_begin : Cond.code yX0_begin cX0_begin 6 none ∈ g_WA := g_mem 140 (by decide +kernel)
theorem kn_X0_begin : Cond.instanceMethod yX0_begin ∈ g_WA := g_mem 139 (by decide +kernel)
theorem kl_X0_begin : Cond.selects yX0_begin.cls yX0_begin yX0_begin ∈ g_WA := g_mem 1 (by decide +kernel)
theorem k_X0_48 : g_kV RX0 48 yX0_begin cX0_begin 6 none 5 := ⟨g_mem 137 (by decide +kernel), kn_X0_begin, kl_X0_begin, ki_X0_begin, kc_X0_begin, kd_X0_begin⟩
theorem kd_X0_fillAt : g_cd yX0_fillAt 2 := ⟨by decide +kernel, by decide +kernel, by decide +kernel⟩
theorem ki_X0_fillAt : Cond.initialized yX0_fillAt.cls ∈ g_WA := g_mem 34 (by decide +kernel)
theorem kc_X0_fillAt : Cond.code yX0_fillAt cX0_fillAt 7 none ∈ g_WA := g_mem 147 (by decide +kernel)
theorem kn_X0_fillAt : Cond.instanceMethod yX0_fillAt ∈ g_WA := g_mem 146 (by decide +kernel)
theorem kl_X0_fillAt : Cond.selects yX0_fillAt.cls yX0_fillAt yX0_fillAt ∈ g_WA := g_mem 2 (by decide +kernel)
theorem k_X0_52 : g_kV RX0 52 yX0_fillAt cX0_fillAt 7 none 2 := ⟨g_mem 144 (by decide +kernel), kn_X0_fillAt, kl_X0_fillAt, ki_X0_fillAt, kc_X0_fillAt, kd_X0_fillAt⟩
theorem kd_X0_placeBy : g_cd yX0_placeBy 1 := ⟨by decide +kernel, by decide +kernel, by decide +kernel⟩
theorem ki_X0_placeBy : Cond.initialized yX0_placeBy.cls ∈ g_WA := g_mem 34 (by decide +kernel)
theorem kc_X0_placeBy : Cond.code yX0_placeBy cX0_placeBy 5 (some .int) ∈ g_WA := g_mem 480 (by decide +kernel)
theorem kn_X0_placeBy : Cond.instanceMethod yX0_placeBy ∈ g_WA := g_mem 479 (by decide +kernel)
theorem kl_X0_placeBy : Cond.selects yX0_placeBy.cls yX0_placeBy yX0_placeBy ∈ g_WA := g_mem 10 (by decide +kernel)
theorem k_X0_60 : g_kV RX0 60 yX0_placeBy cX0_placeBy 5 (some .int) 1 := ⟨g_mem 477 (by decide +kernel), kn_X0_placeBy, kl_X0_placeBy, ki_X0_placeBy, kc_X0_placeBy, kd_X0_placeBy⟩
theorem kd_X0_isPost : g_cd yX0_isPost 1 := ⟨by decide +kernel, by decide +kernel, by decide +kernel⟩
theorem ki_X0_isPost : Cond.initialized yX0_isPost.cls ∈ g_WA := g_mem 34 (by decide +kernel)
theorem kc_X0_isPost : Cond.code yX0_isPost cX0_isPost 2 (some .boolean) ∈ g_WA := g_mem 177 (by decide +kernel)
theorem kn_X0_isPost : Cond.instanceMethod yX0_isPost ∈ g_WA := g_mem 176 (by decide +kernel)
theorem kl_X0_isPost : Cond.selects yX0_isPost.cls yX0_isPost yX0_isPost ∈ g_WA := g_mem 4 (by decide +kernel)
theorem k_X0_68 : g_kV RX0 68 yX0_isPost cX0_isPost 2 (some .boolean) 1 := ⟨g_mem 174 (by decide +kernel), kn_X0_isPost, kl_X0_isPost, ki_X0_isPost, kc_X0_isPost, kd_X0_isPost⟩
theorem k_X0_72 : Cond.methodLink RX0 72 Lib.Math.max.name ∈ g_WA := g_mem 182 (by decide +kernel)
theorem k_X0_85 : g_kV RX0 85 yX1_nameAt cX1_nameAt 2 (some .int) 1 := ⟨g_mem 151 (by decide +kernel), kn_X1_nameAt, kl_X1_nameAt, ki_X1_nameAt, kc_X1_nameAt, kd_X1_nameAt⟩
theorem kd_X0_fillSides : g_cd yX0_fillSides 2 := ⟨by decide +kernel, by decide +kernel, by decide +kernel⟩
theorem ki_X0_fillSides : Cond.initialized yX0_fillSides.cls ∈ g_WA := g_mem 34 (by decide +kernel)
theorem kc_X0_fillSides : Cond.code yX0_fillSides cX0_fillSides 8 none ∈ g_WA := g_mem 162 (by decide +kernel)
theorem kn_X0_fillSides : Cond.instanceMethod yX0_fillSides ∈ g_WA := g_mem 161 (by decide +kernel)
theorem kl_X0_fillSides : Cond.selects yX0_fillSides.cls yX0_fillSides yX0_fillSides ∈ g_WA := g_mem 3 (by decide +kernel)
theorem k_X0_88 : g_kV RX0 88 yX0_fillSides cX0_fillSides 8 none 2 := ⟨g_mem 159 (by decide +kernel), kn_X0_fillSides, kl_X0_fillSides, ki_X0_fillSides, kc_X0_fillSides, kd_X0_fillSides⟩
theorem k_X1_26 : g_kV RX1 26 yX1_smallerThan cX1_smallerThan 3 (some .int) 1 := ⟨g_mem 242 (by decide +kernel), kn_X1_smallerThan, kl_X1_smallerThan, ki_X1_smallerThan, kc_X1_smallerThan, kd_X1_smallerThan⟩
theorem k_X1_30 : g_kV RX1 30 yX1_nameAt cX1_nameAt 2 (some .int) 1 := ⟨g_mem 193 (by decide +kernel), kn_X1_nameAt, kl_X1_nameAt, ki_X1_nameAt, kc_X1_nameAt, kd_X1_nameAt⟩
theorem k_X1_33 : g_kV RX1 33 yX1_milesAt cX1_milesAt 2 (some .int) 1 := ⟨g_mem 203 (by decide +kernel), kn_X1_milesAt, kl_X1_milesAt, ki_X1_milesAt, kc_X1_milesAt, kd_X1_milesAt⟩
theorem k_X1_36 : g_kV RX1 36 yX1_milesOf cX1_milesOf 3 (some .int) 1 := ⟨g_mem 411 (by decide +kernel), kn_X1_milesOf, kl_X1_milesOf, ki_X1_milesOf, kc_X1_milesOf, kd_X1_milesOf⟩
theorem kd_X1_makeRoomAt : g_cd yX1_makeRoomAt 1 := ⟨by decide +kernel, by decide +kernel, by decide +kernel⟩
theorem ki_X1_makeRoomAt : Cond.initialized yX1_makeRoomAt.cls ∈ g_WA := g_mem 33 (by decide +kernel)
theorem kc_X1_makeRoomAt : Cond.code yX1_makeRoomAt cX1_makeRoomAt 3 none ∈ g_WA := g_mem 249 (by decide +kernel)
theorem kn_X1_makeRoomAt : Cond.instanceMethod yX1_makeRoomAt ∈ g_WA := g_mem 248 (by decide +kernel)
theorem kl_X1_makeRoomAt : Cond.selects yX1_makeRoomAt.cls yX1_makeRoomAt yX1_makeRoomAt ∈ g_WA := g_mem 6 (by decide +kernel)
theorem k_X1_39 : g_kV RX1 39 yX1_makeRoomAt cX1_makeRoomAt 3 none 1 := ⟨g_mem 246 (by decide +kernel), kn_X1_makeRoomAt, kl_X1_makeRoomAt, ki_X1_makeRoomAt, kc_X1_makeRoomAt, kd_X1_makeRoomAt⟩
theorem k_X1_47 : g_kV RX1 47 yX1_size cX1_size 1 (some .int) 0 := ⟨g_mem 237 (by decide +kernel), kn_X1_size, kl_X1_size, ki_X1_size, kc_X1_size, kd_X1_size⟩
theorem k_X1_50 : g_kV RX1 50 yX1_set cX1_set 4 none 2 := ⟨g_mem 238 (by decide +kernel), kn_X1_set, kl_X1_set, ki_X1_set, kc_X1_set, kd_X1_set⟩
theorem k_X1_54 : g_kV RX1 54 yX1_keepFirst cX1_keepFirst 2 none 1 := ⟨g_mem 444 (by decide +kernel), kn_X1_keepFirst, kl_X1_keepFirst, ki_X1_keepFirst, kc_X1_keepFirst, kd_X1_keepFirst⟩
theorem k_X1_57 : Cond.methodLink RX1 57 Lib.Math.max.name ∈ g_WA := g_mem 215 (by decide +kernel)
theorem kd_X2_put : g_cd yX2_put 3 := ⟨by decide +kernel, by decide +kernel, by decide +kernel⟩
theorem ki_X2_put : Cond.initialized yX2_put.cls ∈ g_WA := g_mem 32 (by decide +kernel)
theorem kc_X2_put : Cond.code yX2_put cX2_put 6 (some .int) ∈ g_WA := g_mem 260 (by decide +kernel)
theorem kn_X2_put : Cond.instanceMethod yX2_put ∈ g_WA := g_mem 258 (by decide +kernel)
theorem kl_X2_put : Cond.selects yX2_put.cls yX2_put yX2_put ∈ g_WA := g_mem 259 (by decide +kernel)
theorem k_L_7 : g_kV RL 7 yX2_put cX2_put 6 (some .int) 3 := ⟨g_mem 257 (by decide +kernel), kn_X2_put, kl_X2_put, ki_X2_put, kc_X2_put, kd_X2_put⟩
theorem kd_X2_take : g_cd yX2_take 2 := ⟨by decide +kernel, by decide +kernel, by decide +kernel⟩
theorem ki_X2_take : Cond.initialized yX2_take.cls ∈ g_WA := g_mem 32 (by decide +kernel)
theorem kc_X2_take : Cond.code yX2_take cX2_take 5 (some .int) ∈ g_WA := g_mem 390 (by decide +kernel)
theorem kn_X2_take : Cond.instanceMethod yX2_take ∈ g_WA := g_mem 388 (by decide +kernel)
theorem kl_X2_take : Cond.selects yX2_take.cls yX2_take yX2_take ∈ g_WA := g_mem 389 (by decide +kernel)
theorem k_L_19 : g_kV RL 19 yX2_take cX2_take 5 (some .int) 2 := ⟨g_mem 387 (by decide +kernel), kn_X2_take, kl_X2_take, ki_X2_take, kc_X2_take, kd_X2_take⟩
theorem kd_X2_merge : g_cd yX2_merge 2 := ⟨by decide +kernel, by decide +kernel, by decide +kernel⟩
theorem ki_X2_merge : Cond.initialized yX2_merge.cls ∈ g_WA := g_mem 32 (by decide +kernel)
theorem kc_X2_merge : Cond.code yX2_merge cX2_merge 8 (some .int) ∈ g_WA := g_mem 402 (by decide +kernel)
theorem kn_X2_merge : Cond.instanceMethod yX2_merge ∈ g_WA := g_mem 400 (by decide +kernel)
theorem kl_X2_merge : Cond.selects yX2_merge.cls yX2_merge yX2_merge ∈ g_WA := g_mem 401 (by decide +kernel)
theorem k_L_23 : g_kV RL 23 yX2_merge cX2_merge 8 (some .int) 2 := ⟨g_mem 399 (by decide +kernel), kn_X2_merge, kl_X2_merge, ki_X2_merge, kc_X2_merge, kd_X2_merge⟩
theorem kd_X2_cut : g_cd yX2_cut 2 := ⟨by decide +kernel, by decide +kernel, by decide +kernel⟩
theorem ki_X2_cut : Cond.initialized yX2_cut.cls ∈ g_WA := g_mem 32 (by decide +kernel)
theorem kc_X2_cut : Cond.code yX2_cut cX2_cut 7 (some .int) ∈ g_WA := g_mem 426 (by decide +kernel)
theorem kn_X2_cut : Cond.instanceMethod yX2_cut ∈ g_WA := g_mem 424 (by decide +kernel)
theorem kl_X2_cut : Cond.selects yX2_cut.cls yX2_cut yX2_cut ∈ g_WA := g_mem 425 (by decide +kernel)
theorem k_L_26 : g_kV RL 26 yX2_cut cX2_cut 7 (some .int) 2 := ⟨g_mem 423 (by decide +kernel), kn_X2_cut, kl_X2_cut, ki_X2_cut, kc_X2_cut, kd_X2_cut⟩
theorem kd_X2_turn : g_cd yX2_turn 2 := ⟨by decide +kernel, by decide +kernel, by decide +kernel⟩
theorem ki_X2_turn : Cond.initialized yX2_turn.cls ∈ g_WA := g_mem 32 (by decide +kernel)
theorem kc_X2_turn : Cond.code yX2_turn cX2_turn 4 (some .int) ∈ g_WA := g_mem 435 (by decide +kernel)
theorem kn_X2_turn : Cond.instanceMethod yX2_turn ∈ g_WA := g_mem 433 (by decide +kernel)
theorem kl_X2_turn : Cond.selects yX2_turn.cls yX2_turn yX2_turn ∈ g_WA := g_mem 434 (by decide +kernel)
theorem k_L_29 : g_kV RL 29 yX2_turn cX2_turn 4 (some .int) 2 := ⟨g_mem 432 (by decide +kernel), kn_X2_turn, kl_X2_turn, ki_X2_turn, kc_X2_turn, kd_X2_turn⟩
theorem kd_X2_miles : g_cd yX2_miles 2 := ⟨by decide +kernel, by decide +kernel, by decide +kernel⟩
theorem ki_X2_miles : Cond.initialized yX2_miles.cls ∈ g_WA := g_mem 32 (by decide +kernel)
theorem kc_X2_miles : Cond.code yX2_miles cX2_miles 3 (some .int) ∈ g_WA := g_mem 451 (by decide +kernel)
theorem kn_X2_miles : Cond.instanceMethod yX2_miles ∈ g_WA := g_mem 449 (by decide +kernel)
theorem kl_X2_miles : Cond.selects yX2_miles.cls yX2_miles yX2_miles ∈ g_WA := g_mem 450 (by decide +kernel)
theorem k_L_32 : g_kV RL 32 yX2_miles cX2_miles 3 (some .int) 2 := ⟨g_mem 448 (by decide +kernel), kn_X2_miles, kl_X2_miles, ki_X2_miles, kc_X2_miles, kd_X2_miles⟩
theorem kd_X2_count : g_cd yX2_count 2 := ⟨by decide +kernel, by decide +kernel, by decide +kernel⟩
theorem ki_X2_count : Cond.initialized yX2_count.cls ∈ g_WA := g_mem 32 (by decide +kernel)
theorem kc_X2_count : Cond.code yX2_count cX2_count 4 (some .int) ∈ g_WA := g_mem 458 (by decide +kernel)
theorem kn_X2_count : Cond.instanceMethod yX2_count ∈ g_WA := g_mem 456 (by decide +kernel)
theorem kl_X2_count : Cond.selects yX2_count.cls yX2_count yX2_count ∈ g_WA := g_mem 457 (by decide +kernel)
theorem k_L_35 : g_kV RL 35 yX2_count cX2_count 4 (some .int) 2 := ⟨g_mem 455 (by decide +kernel), kn_X2_count, kl_X2_count, ki_X2_count, kc_X2_count, kd_X2_count⟩
theorem kd_X2_sign : g_cd yX2_sign 3 := ⟨by decide +kernel, by decide +kernel, by decide +kernel⟩
theorem ki_X2_sign : Cond.initialized yX2_sign.cls ∈ g_WA := g_mem 32 (by decide +kernel)
theorem kc_X2_sign : Cond.code yX2_sign cX2_sign 4 (some .int) ∈ g_WA := g_mem 465 (by decide +kernel)
theorem kn_X2_sign : Cond.instanceMethod yX2_sign ∈ g_WA := g_mem 463 (by decide +kernel)
theorem kl_X2_sign : Cond.selects yX2_sign.cls yX2_sign yX2_sign ∈ g_WA := g_mem 464 (by decide +kernel)
theorem k_L_38 : g_kV RL 38 yX2_sign cX2_sign 4 (some .int) 3 := ⟨g_mem 462 (by decide +kernel), kn_X2_sign, kl_X2_sign, ki_X2_sign, kc_X2_sign, kd_X2_sign⟩
theorem kd_X2_walk : g_cd yX2_walk 3 := ⟨by decide +kernel, by decide +kernel, by decide +kernel⟩
theorem ki_X2_walk : Cond.initialized yX2_walk.cls ∈ g_WA := g_mem 32 (by decide +kernel)
theorem kc_X2_walk : Cond.code yX2_walk cX2_walk 5 (some .int) ∈ g_WA := g_mem 472 (by decide +kernel)
theorem kn_X2_walk : Cond.instanceMethod yX2_walk ∈ g_WA := g_mem 470 (by decide +kernel)
theorem kl_X2_walk : Cond.selects yX2_walk.cls yX2_walk yX2_walk ∈ g_WA := g_mem 471 (by decide +kernel)
theorem k_L_41 : g_kV RL 41 yX2_walk cX2_walk 5 (some .int) 3 := ⟨g_mem 469 (by decide +kernel), kn_X2_walk, kl_X2_walk, ki_X2_walk, kc_X2_walk, kd_X2_walk⟩
theorem kd_X2_step : g_cd yX2_step 3 := ⟨by decide +kernel, by decide +kernel, by decide +kernel⟩
theorem ki_X2_step : Cond.initialized yX2_step.cls ∈ g_WA := g_mem 32 (by decide +kernel)
theorem kc_X2_step : Cond.code yX2_step cX2_step 5 (some .int) ∈ g_WA := g_mem 487 (by decide +kernel)
theorem kn_X2_step : Cond.instanceMethod yX2_step ∈ g_WA := g_mem 485 (by decide +kernel)
theorem kl_X2_step : Cond.selects yX2_step.cls yX2_step yX2_step ∈ g_WA := g_mem 486 (by decide +kernel)
theorem k_L_44 : g_kV RL 44 yX2_step cX2_step 5 (some .int) 3 := ⟨g_mem 484 (by decide +kernel), kn_X2_step, kl_X2_step, ki_X2_step, kc_X2_step, kd_X2_step⟩
theorem kd_X2_at : g_cd yX2_at 2 := ⟨by decide +kernel, by decide +kernel, by decide +kernel⟩
theorem ki_X2_at : Cond.initialized yX2_at.cls ∈ g_WA := g_mem 32 (by decide +kernel)
theorem kc_X2_at : Cond.code yX2_at cX2_at 4 (some .int) ∈ g_WA := g_mem 494 (by decide +kernel)
theorem kn_X2_at : Cond.instanceMethod yX2_at ∈ g_WA := g_mem 492 (by decide +kernel)
theorem kl_X2_at : Cond.selects yX2_at.cls yX2_at yX2_at ∈ g_WA := g_mem 493 (by decide +kernel)
theorem k_L_48 : g_kV RL 48 yX2_at cX2_at 4 (some .int) 2 := ⟨g_mem 491 (by decide +kernel), kn_X2_at, kl_X2_at, ki_X2_at, kc_X2_at, kd_X2_at⟩
theorem kd_X2_range : g_cd yX2_range 4 := ⟨by decide +kernel, by decide +kernel, by decide +kernel⟩
theorem ki_X2_range : Cond.initialized yX2_range.cls ∈ g_WA := g_mem 32 (by decide +kernel)
theorem kc_X2_range : Cond.code yX2_range cX2_range 8 (some .int) ∈ g_WA := g_mem 501 (by decide +kernel)
theorem kn_X2_range : Cond.instanceMethod yX2_range ∈ g_WA := g_mem 499 (by decide +kernel)
theorem kl_X2_range : Cond.selects yX2_range.cls yX2_range yX2_range ∈ g_WA := g_mem 500 (by decide +kernel)
theorem k_L_51 : g_kV RL 51 yX2_range cX2_range 8 (some .int) 4 := ⟨g_mem 498 (by decide +kernel), kn_X2_range, kl_X2_range, ki_X2_range, kc_X2_range, kd_X2_range⟩
theorem kd_X2_near : g_cd yX2_near 2 := ⟨by decide +kernel, by decide +kernel, by decide +kernel⟩
theorem ki_X2_near : Cond.initialized yX2_near.cls ∈ g_WA := g_mem 32 (by decide +kernel)
theorem kc_X2_near : Cond.code yX2_near cX2_near 3 (some .int) ∈ g_WA := g_mem 513 (by decide +kernel)
theorem kn_X2_near : Cond.instanceMethod yX2_near ∈ g_WA := g_mem 511 (by decide +kernel)
theorem kl_X2_near : Cond.selects yX2_near.cls yX2_near yX2_near ∈ g_WA := g_mem 512 (by decide +kernel)
theorem k_L_55 : g_kV RL 55 yX2_near cX2_near 3 (some .int) 2 := ⟨g_mem 510 (by decide +kernel), kn_X2_near, kl_X2_near, ki_X2_near, kc_X2_near, kd_X2_near⟩
theorem kd_X2_far : g_cd yX2_far 1 := ⟨by decide +kernel, by decide +kernel, by decide +kernel⟩
theorem ki_X2_far : Cond.initialized yX2_far.cls ∈ g_WA := g_mem 32 (by decide +kernel)
theorem kc_X2_far : Cond.code yX2_far cX2_far 2 (some .int) ∈ g_WA := g_mem 524 (by decide +kernel)
theorem kn_X2_far : Cond.instanceMethod yX2_far ∈ g_WA := g_mem 522 (by decide +kernel)
theorem kl_X2_far : Cond.selects yX2_far.cls yX2_far yX2_far ∈ g_WA := g_mem 523 (by decide +kernel)
theorem k_L_58 : g_kV RL 58 yX2_far cX2_far 2 (some .int) 1 := ⟨g_mem 521 (by decide +kernel), kn_X2_far, kl_X2_far, ki_X2_far, kc_X2_far, kd_X2_far⟩
theorem kd_X2_unlike : g_cd yX2_unlike 2 := ⟨by decide +kernel, by decide +kernel, by decide +kernel⟩
theorem ki_X2_unlike : Cond.initialized yX2_unlike.cls ∈ g_WA := g_mem 32 (by decide +kernel)
theorem kc_X2_unlike : Cond.code yX2_unlike cX2_unlike 3 (some .int) ∈ g_WA := g_mem 531 (by decide +kernel)
theorem kn_X2_unlike : Cond.instanceMethod yX2_unlike ∈ g_WA := g_mem 529 (by decide +kernel)
theorem kl_X2_unlike : Cond.selects yX2_unlike.cls yX2_unlike yX2_unlike ∈ g_WA := g_mem 530 (by decide +kernel)
theorem k_L_62 : g_kV RL 62 yX2_unlike cX2_unlike 3 (some .int) 2 := ⟨g_mem 528 (by decide +kernel), kn_X2_unlike, kl_X2_unlike, ki_X2_unlike, kc_X2_unlike, kd_X2_unlike⟩
theorem kd_X2_would : g_cd yX2_would 1 := ⟨by decide +kernel, by decide +kernel, by decide +kernel⟩
theorem ki_X2_would : Cond.initialized yX2_would.cls ∈ g_WA := g_mem 32 (by decide +kernel)
theorem kc_X2_would : Cond.code yX2_would cX2_would 2 (some .int) ∈ g_WA := g_mem 539 (by decide +kernel)
theorem kn_X2_would : Cond.instanceMethod yX2_would ∈ g_WA := g_mem 537 (by decide +kernel)
theorem kl_X2_would : Cond.selects yX2_would.cls yX2_would yX2_would ∈ g_WA := g_mem 538 (by decide +kernel)
theorem k_L_65 : g_kV RL 65 yX2_would cX2_would 2 (some .int) 1 := ⟨g_mem 536 (by decide +kernel), kn_X2_would, kl_X2_would, ki_X2_would, kc_X2_would, kd_X2_would⟩
theorem kd_X2_advise : g_cd yX2_advise 1 := ⟨by decide +kernel, by decide +kernel, by decide +kernel⟩
theorem ki_X2_advise : Cond.initialized yX2_advise.cls ∈ g_WA := g_mem 32 (by decide +kernel)
theorem kc_X2_advise : Cond.code yX2_advise cX2_advise 2 (some .int) ∈ g_WA := g_mem 546 (by decide +kernel)
theorem kn_X2_advise : Cond.instanceMethod yX2_advise ∈ g_WA := g_mem 544 (by decide +kernel)
theorem kl_X2_advise : Cond.selects yX2_advise.cls yX2_advise yX2_advise ∈ g_WA := g_mem 545 (by decide +kernel)
theorem k_L_68 : g_kV RL 68 yX2_advise cX2_advise 2 (some .int) 1 := ⟨g_mem 543 (by decide +kernel), kn_X2_advise, kl_X2_advise, ki_X2_advise, kc_X2_advise, kd_X2_advise⟩
theorem kd_X2_mean : g_cd yX2_mean 1 := ⟨by decide +kernel, by decide +kernel, by decide +kernel⟩
theorem ki_X2_mean : Cond.initialized yX2_mean.cls ∈ g_WA := g_mem 32 (by decide +kernel)
theorem kc_X2_mean : Cond.code yX2_mean cX2_mean 4 (some .double) ∈ g_WA := g_mem 557 (by decide +kernel)
theorem kn_X2_mean : Cond.instanceMethod yX2_mean ∈ g_WA := g_mem 555 (by decide +kernel)
theorem kl_X2_mean : Cond.selects yX2_mean.cls yX2_mean yX2_mean ∈ g_WA := g_mem 556 (by decide +kernel)
theorem k_L_71 : g_kV RL 71 yX2_mean cX2_mean 4 (some .double) 1 := ⟨g_mem 554 (by decide +kernel), kn_X2_mean, kl_X2_mean, ki_X2_mean, kc_X2_mean, kd_X2_mean⟩
theorem kd_X2_init : g_cd yX2_init 0 := ⟨by decide +kernel, by decide +kernel, by decide +kernel⟩
theorem ki_X2_init : Cond.initialized yX2_init.cls ∈ g_WA := g_mem 32 (by decide +kernel)
theorem kc_X2_init : Cond.code yX2_init cX2_init 1 none ∈ g_WA := g_mem 49 (by decide +kernel)
theorem kn_X2_init : Cond.instanceMethod yX2_init ∈ g_WA := g_mem 48 (by decide +kernel)
theorem kd_X3_init : g_cd yX3_init 0 := ⟨by decide +kernel, by decide +kernel, by decide +kernel⟩
theorem ki_X3_init : Cond.initialized yX3_init.cls ∈ g_WA := g_mem 35 (by decide +kernel)
theorem kc_X3_init : Cond.code yX3_init cX3_init 1 none ∈ g_WA := g_mem 562 (by decide +kernel)
theorem kn_X3_init : Cond.instanceMethod yX3_init ∈ g_WA := g_mem 561 (by decide +kernel)
theorem kd_X3_put : g_cd yX3_put 3 := ⟨by decide +kernel, by decide +kernel, by decide +kernel⟩
theorem ki_X3_put : Cond.initialized yX3_put.cls ∈ g_WA := g_mem 35 (by decide +kernel)
theorem kc_X3_put : Cond.code yX3_put cX3_put 6 (some .int) ∈ g_WA := g_mem 611 (by decide +kernel)
theorem kn_X3_put : Cond.instanceMethod yX3_put ∈ g_WA := g_mem 609 (by decide +kernel)
theorem kl_X3_put : Cond.selects yX3_put.cls yX3_put yX3_put ∈ g_WA := g_mem 610 (by decide +kernel)
theorem k_L_84 : g_kV RL 84 yX3_put cX3_put 6 (some .int) 3 := ⟨g_mem 608 (by decide +kernel), kn_X3_put, kl_X3_put, ki_X3_put, kc_X3_put, kd_X3_put⟩
theorem kd_X3_thrown : g_cd yX3_thrown 0 := ⟨by decide +kernel, by decide +kernel, by decide +kernel⟩
theorem ki_X3_thrown : Cond.initialized yX3_thrown.cls ∈ g_WA := g_mem 35 (by decide +kernel)
theorem kc_X3_thrown : Cond.code yX3_thrown cX3_thrown 1 (some .int) ∈ g_WA := g_mem 607 (by decide +kernel)
theorem kn_X3_thrown : Cond.instanceMethod yX3_thrown ∈ g_WA := g_mem 605 (by decide +kernel)
theorem kl_X3_thrown : Cond.selects yX3_thrown.cls yX3_thrown yX3_thrown ∈ g_WA := g_mem 606 (by decide +kernel)
theorem k_L_85 : g_kV RL 85 yX3_thrown cX3_thrown 1 (some .int) 0 := ⟨g_mem 604 (by decide +kernel), kn_X3_thrown, kl_X3_thrown, ki_X3_thrown, kc_X3_thrown, kd_X3_thrown⟩
theorem kd_X3_take : g_cd yX3_take 2 := ⟨by decide +kernel, by decide +kernel, by decide +kernel⟩
theorem ki_X3_take : Cond.initialized yX3_take.cls ∈ g_WA := g_mem 35 (by decide +kernel)
theorem kc_X3_take : Cond.code yX3_take cX3_take 3 (some .int) ∈ g_WA := g_mem 644 (by decide +kernel)
theorem kn_X3_take : Cond.instanceMethod yX3_take ∈ g_WA := g_mem 642 (by decide +kernel)
theorem kl_X3_take : Cond.selects yX3_take.cls yX3_take yX3_take ∈ g_WA := g_mem 643 (by decide +kernel)
theorem k_L_92 : g_kV RL 92 yX3_take cX3_take 3 (some .int) 2 := ⟨g_mem 641 (by decide +kernel), kn_X3_take, kl_X3_take, ki_X3_take, kc_X3_take, kd_X3_take⟩
theorem kd_X3_merge : g_cd yX3_merge 2 := ⟨by decide +kernel, by decide +kernel, by decide +kernel⟩
theorem ki_X3_merge : Cond.initialized yX3_merge.cls ∈ g_WA := g_mem 35 (by decide +kernel)
theorem kc_X3_merge : Cond.code yX3_merge cX3_merge 7 (some .int) ∈ g_WA := g_mem 652 (by decide +kernel)
theorem kn_X3_merge : Cond.instanceMethod yX3_merge ∈ g_WA := g_mem 650 (by decide +kernel)
theorem kl_X3_merge : Cond.selects yX3_merge.cls yX3_merge yX3_merge ∈ g_WA := g_mem 651 (by decide +kernel)
theorem k_L_95 : g_kV RL 95 yX3_merge cX3_merge 7 (some .int) 2 := ⟨g_mem 649 (by decide +kernel), kn_X3_merge, kl_X3_merge, ki_X3_merge, kc_X3_merge, kd_X3_merge⟩
theorem kd_X3_cut : g_cd yX3_cut 2 := ⟨by decide +kernel, by decide +kernel, by decide +kernel⟩
theorem ki_X3_cut : Cond.initialized yX3_cut.cls ∈ g_WA := g_mem 35 (by decide +kernel)
theorem kc_X3_cut : Cond.code yX3_cut cX3_cut 5 (some .int) ∈ g_WA := g_mem 664 (by decide +kernel)
theorem kn_X3_cut : Cond.instanceMethod yX3_cut ∈ g_WA := g_mem 662 (by decide +kernel)
theorem kl_X3_cut : Cond.selects yX3_cut.cls yX3_cut yX3_cut ∈ g_WA := g_mem 663 (by decide +kernel)
theorem k_L_98 : g_kV RL 98 yX3_cut cX3_cut 5 (some .int) 2 := ⟨g_mem 661 (by decide +kernel), kn_X3_cut, kl_X3_cut, ki_X3_cut, kc_X3_cut, kd_X3_cut⟩
theorem kd_X3_turn : g_cd yX3_turn 2 := ⟨by decide +kernel, by decide +kernel, by decide +kernel⟩
theorem ki_X3_turn : Cond.initialized yX3_turn.cls ∈ g_WA := g_mem 35 (by decide +kernel)
theorem kc_X3_turn : Cond.code yX3_turn cX3_turn 7 (some .int) ∈ g_WA := g_mem 668 (by decide +kernel)
theorem kn_X3_turn : Cond.instanceMethod yX3_turn ∈ g_WA := g_mem 666 (by decide +kernel)
theorem kl_X3_turn : Cond.selects yX3_turn.cls yX3_turn yX3_turn ∈ g_WA := g_mem 667 (by decide +kernel)
theorem k_L_101 : g_kV RL 101 yX3_turn cX3_turn 7 (some .int) 2 := ⟨g_mem 665 (by decide +kernel), kn_X3_turn, kl_X3_turn, ki_X3_turn, kc_X3_turn, kd_X3_turn⟩
theorem kd_X3_miles : g_cd yX3_miles 2 := ⟨by decide +kernel, by decide +kernel, by decide +kernel⟩
theorem ki_X3_miles : Cond.initialized yX3_miles.cls ∈ g_WA := g_mem 35 (by decide +kernel)
theorem kc_X3_miles : Cond.code yX3_miles cX3_miles 3 (some .int) ∈ g_WA := g_mem 672 (by decide +kernel)
theorem kn_X3_miles : Cond.instanceMethod yX3_miles ∈ g_WA := g_mem 670 (by decide +kernel)
theorem kl_X3_miles : Cond.selects yX3_miles.cls yX3_miles yX3_miles ∈ g_WA := g_mem 671 (by decide +kernel)
theorem k_L_104 : g_kV RL 104 yX3_miles cX3_miles 3 (some .int) 2 := ⟨g_mem 669 (by decide +kernel), kn_X3_miles, kl_X3_miles, ki_X3_miles, kc_X3_miles, kd_X3_miles⟩
theorem kd_X3_count : g_cd yX3_count 2 := ⟨by decide +kernel, by decide +kernel, by decide +kernel⟩
theorem ki_X3_count : Cond.initialized yX3_count.cls ∈ g_WA := g_mem 35 (by decide +kernel)
theorem kc_X3_count : Cond.code yX3_count cX3_count 3 (some .int) ∈ g_WA := g_mem 676 (by decide +kernel)
theorem kn_X3_count : Cond.instanceMethod yX3_count ∈ g_WA := g_mem 674 (by decide +kernel)
theorem kl_X3_count : Cond.selects yX3_count.cls yX3_count yX3_count ∈ g_WA := g_mem 675 (by decide +kernel)
theorem k_L_107 : g_kV RL 107 yX3_count cX3_count 3 (some .int) 2 := ⟨g_mem 673 (by decide +kernel), kn_X3_count, kl_X3_count, ki_X3_count, kc_X3_count, kd_X3_count⟩
theorem kd_X3_sign : g_cd yX3_sign 3 := ⟨by decide +kernel, by decide +kernel, by decide +kernel⟩
theorem ki_X3_sign : Cond.initialized yX3_sign.cls ∈ g_WA := g_mem 35 (by decide +kernel)
theorem kc_X3_sign : Cond.code yX3_sign cX3_sign 4 (some .int) ∈ g_WA := g_mem 719 (by decide +kernel)
theorem kn_X3_sign : Cond.instanceMethod yX3_sign ∈ g_WA := g_mem 717 (by decide +kernel)
theorem kl_X3_sign : Cond.selects yX3_sign.cls yX3_sign yX3_sign ∈ g_WA := g_mem 718 (by decide +kernel)
theorem k_L_110 : g_kV RL 110 yX3_sign cX3_sign 4 (some .int) 3 := ⟨g_mem 716 (by decide +kernel), kn_X3_sign, kl_X3_sign, ki_X3_sign, kc_X3_sign, kd_X3_sign⟩
theorem kd_X3_walk : g_cd yX3_walk 3 := ⟨by decide +kernel, by decide +kernel, by decide +kernel⟩
theorem ki_X3_walk : Cond.initialized yX3_walk.cls ∈ g_WA := g_mem 35 (by decide +kernel)
theorem kc_X3_walk : Cond.code yX3_walk cX3_walk 6 (some .int) ∈ g_WA := g_mem 727 (by decide +kernel)
theorem kn_X3_walk : Cond.instanceMethod yX3_walk ∈ g_WA := g_mem 725 (by decide +kernel)
theorem kl_X3_walk : Cond.selects yX3_walk.cls yX3_walk yX3_walk ∈ g_WA := g_mem 726 (by decide +kernel)
theorem k_L_113 : g_kV RL 113 yX3_walk cX3_walk 6 (some .int) 3 := ⟨g_mem 724 (by decide +kernel), kn_X3_walk, kl_X3_walk, ki_X3_walk, kc_X3_walk, kd_X3_walk⟩
theorem kd_X3_step : g_cd yX3_step 3 := ⟨by decide +kernel, by decide +kernel, by decide +kernel⟩
theorem ki_X3_step : Cond.initialized yX3_step.cls ∈ g_WA := g_mem 35 (by decide +kernel)
theorem kc_X3_step : Cond.code yX3_step cX3_step 5 (some .int) ∈ g_WA := g_mem 735 (by decide +kernel)
theorem kn_X3_step : Cond.instanceMethod yX3_step ∈ g_WA := g_mem 733 (by decide +kernel)
theorem kl_X3_step : Cond.selects yX3_step.cls yX3_step yX3_step ∈ g_WA := g_mem 734 (by decide +kernel)
theorem k_L_117 : g_kV RL 117 yX3_step cX3_step 5 (some .int) 3 := ⟨g_mem 732 (by decide +kernel), kn_X3_step, kl_X3_step, ki_X3_step, kc_X3_step, kd_X3_step⟩
theorem kd_X3_at : g_cd yX3_at 2 := ⟨by decide +kernel, by decide +kernel, by decide +kernel⟩
theorem ki_X3_at : Cond.initialized yX3_at.cls ∈ g_WA := g_mem 35 (by decide +kernel)
theorem kc_X3_at : Cond.code yX3_at cX3_at 3 (some .int) ∈ g_WA := g_mem 739 (by decide +kernel)
theorem kn_X3_at : Cond.instanceMethod yX3_at ∈ g_WA := g_mem 737 (by decide +kernel)
theorem kl_X3_at : Cond.selects yX3_at.cls yX3_at yX3_at ∈ g_WA := g_mem 738 (by decide +kernel)
theorem k_L_120 : g_kV RL 120 yX3_at cX3_at 3 (some .int) 2 := ⟨g_mem 736 (by decide +kernel), kn_X3_at, kl_X3_at, ki_X3_at, kc_X3_at, kd_X3_at⟩
theorem kd_X3_range : g_cd yX3_range 4 := ⟨by decide +kernel, by decide +kernel, by decide +kernel⟩
theorem ki_X3_range : Cond.initialized yX3_range.cls ∈ g_WA := g_mem 35 (by decide +kernel)
theorem kc_X3_range : Cond.code yX3_range cX3_range 5 (some .int) ∈ g_WA := g_mem 743 (by decide +kernel)
theorem kn_X3_range : Cond.instanceMethod yX3_range ∈ g_WA := g_mem 741 (by decide +kernel)
theorem kl_X3_range : Cond.selects yX3_range.cls yX3_range yX3_range ∈ g_WA := g_mem 742 (by decide +kernel)
theorem k_L_124 : g_kV RL 124 yX3_range cX3_range 5 (some .int) 4 := ⟨g_mem 740 (by decide +kernel), kn_X3_range, kl_X3_range, ki_X3_range, kc_X3_range, kd_X3_range⟩
theorem kd_X3_near : g_cd yX3_near 2 := ⟨by decide +kernel, by decide +kernel, by decide +kernel⟩
theorem ki_X3_near : Cond.initialized yX3_near.cls ∈ g_WA := g_mem 35 (by decide +kernel)
theorem kc_X3_near : Cond.code yX3_near cX3_near 5 (some .int) ∈ g_WA := g_mem 751 (by decide +kernel)
theorem kn_X3_near : Cond.instanceMethod yX3_near ∈ g_WA := g_mem 749 (by decide +kernel)
theorem kl_X3_near : Cond.selects yX3_near.cls yX3_near yX3_near ∈ g_WA := g_mem 750 (by decide +kernel)
theorem k_L_127 : g_kV RL 127 yX3_near cX3_near 5 (some .int) 2 := ⟨g_mem 748 (by decide +kernel), kn_X3_near, kl_X3_near, ki_X3_near, kc_X3_near, kd_X3_near⟩
theorem kd_X3_far : g_cd yX3_far 1 := ⟨by decide +kernel, by decide +kernel, by decide +kernel⟩
theorem ki_X3_far : Cond.initialized yX3_far.cls ∈ g_WA := g_mem 35 (by decide +kernel)
theorem kc_X3_far : Cond.code yX3_far cX3_far 2 (some .int) ∈ g_WA := g_mem 755 (by decide +kernel)
theorem kn_X3_far : Cond.instanceMethod yX3_far ∈ g_WA := g_mem 753 (by decide +kernel)
theorem kl_X3_far : Cond.selects yX3_far.cls yX3_far yX3_far ∈ g_WA := g_mem 754 (by decide +kernel)
theorem k_L_131 : g_kV RL 131 yX3_far cX3_far 2 (some .int) 1 := ⟨g_mem 752 (by decide +kernel), kn_X3_far, kl_X3_far, ki_X3_far, kc_X3_far, kd_X3_far⟩
theorem kd_X3_unlike : g_cd yX3_unlike 2 := ⟨by decide +kernel, by decide +kernel, by decide +kernel⟩
theorem ki_X3_unlike : Cond.initialized yX3_unlike.cls ∈ g_WA := g_mem 35 (by decide +kernel)
theorem kc_X3_unlike : Cond.code yX3_unlike cX3_unlike 3 (some .int) ∈ g_WA := g_mem 763 (by decide +kernel)
theorem kn_X3_unlike : Cond.instanceMethod yX3_unlike ∈ g_WA := g_mem 761 (by decide +kernel)
theorem kl_X3_unlike : Cond.selects yX3_unlike.cls yX3_unlike yX3_unlike ∈ g_WA := g_mem 762 (by decide +kernel)
theorem k_L_134 : g_kV RL 134 yX3_unlike cX3_unlike 3 (some .int) 2 := ⟨g_mem 760 (by decide +kernel), kn_X3_unlike, kl_X3_unlike, ki_X3_unlike, kc_X3_unlike, kd_X3_unlike⟩
theorem kd_X3_would : g_cd yX3_would 1 := ⟨by decide +kernel, by decide +kernel, by decide +kernel⟩
theorem ki_X3_would : Cond.initialized yX3_would.cls ∈ g_WA := g_mem 35 (by decide +kernel)
theorem kc_X3_would : Cond.code yX3_would cX3_would 2 (some .int) ∈ g_WA := g_mem 767 (by decide +kernel)
theorem kn_X3_would : Cond.instanceMethod yX3_would ∈ g_WA := g_mem 765 (by decide +kernel)
theorem kl_X3_would : Cond.selects yX3_would.cls yX3_would yX3_would ∈ g_WA := g_mem 766 (by decide +kernel)
theorem k_L_137 : g_kV RL 137 yX3_would cX3_would 2 (some .int) 1 := ⟨g_mem 764 (by decide +kernel), kn_X3_would, kl_X3_would, ki_X3_would, kc_X3_would, kd_X3_would⟩
theorem kd_X3_advise : g_cd yX3_advise 1 := ⟨by decide +kernel, by decide +kernel, by decide +kernel⟩
theorem ki_X3_advise : Cond.initialized yX3_advise.cls ∈ g_WA := g_mem 35 (by decide +kernel)
theorem kc_X3_advise : Cond.code yX3_advise cX3_advise 5 (some .int) ∈ g_WA := g_mem 780 (by decide +kernel)
theorem kn_X3_advise : Cond.instanceMethod yX3_advise ∈ g_WA := g_mem 778 (by decide +kernel)
theorem kl_X3_advise : Cond.selects yX3_advise.cls yX3_advise yX3_advise ∈ g_WA := g_mem 779 (by decide +kernel)
theorem k_L_140 : g_kV RL 140 yX3_advise cX3_advise 5 (some .int) 1 := ⟨g_mem 777 (by decide +kernel), kn_X3_advise, kl_X3_advise, ki_X3_advise, kc_X3_advise, kd_X3_advise⟩
theorem kd_X3_mean : g_cd yX3_mean 1 := ⟨by decide +kernel, by decide +kernel, by decide +kernel⟩
theorem ki_X3_mean : Cond.initialized yX3_mean.cls ∈ g_WA := g_mem 35 (by decide +kernel)
theorem kc_X3_mean : Cond.code yX3_mean cX3_mean 2 (some .double) ∈ g_WA := g_mem 788 (by decide +kernel)
theorem kn_X3_mean : Cond.instanceMethod yX3_mean ∈ g_WA := g_mem 786 (by decide +kernel)
theorem kl_X3_mean : Cond.selects yX3_mean.cls yX3_mean yX3_mean ∈ g_WA := g_mem 787 (by decide +kernel)
theorem k_L_144 : g_kV RL 144 yX3_mean cX3_mean 2 (some .double) 1 := ⟨g_mem 785 (by decide +kernel), kn_X3_mean, kl_X3_mean, ki_X3_mean, kc_X3_mean, kd_X3_mean⟩
theorem kd_X2_digest : g_cd yX2_digest 0 := ⟨by decide +kernel, by decide +kernel, by decide +kernel⟩
theorem ki_X2_digest : Cond.initialized yX2_digest.cls ∈ g_WA := g_mem 32 (by decide +kernel)
theorem kc_X2_digest : Cond.code yX2_digest cX2_digest 4 (some .long) ∈ g_WA := g_mem 123 (by decide +kernel)
theorem kn_X2_digest : Cond.instanceMethod yX2_digest ∈ g_WA := g_mem 121 (by decide +kernel)
theorem kl_X2_digest : Cond.selects yX2_digest.cls yX2_digest yX2_digest ∈ g_WA := g_mem 122 (by decide +kernel)
theorem k_L_145 : g_kV RL 145 yX2_digest cX2_digest 4 (some .long) 0 := ⟨g_mem 120 (by decide +kernel), kn_X2_digest, kl_X2_digest, ki_X2_digest, kc_X2_digest, kd_X2_digest⟩
theorem kd_X3_digest : g_cd yX3_digest 0 := ⟨by decide +kernel, by decide +kernel, by decide +kernel⟩
theorem ki_X3_digest : Cond.initialized yX3_digest.cls ∈ g_WA := g_mem 35 (by decide +kernel)
theorem kc_X3_digest : Cond.code yX3_digest cX3_digest 6 (some .long) ∈ g_WA := g_mem 792 (by decide +kernel)
theorem kn_X3_digest : Cond.instanceMethod yX3_digest ∈ g_WA := g_mem 790 (by decide +kernel)
theorem kl_X3_digest : Cond.selects yX3_digest.cls yX3_digest yX3_digest ∈ g_WA := g_mem 791 (by decide +kernel)
theorem k_L_149 : g_kV RL 149 yX3_digest cX3_digest 6 (some .long) 0 := ⟨g_mem 789 (by decide +kernel), kn_X3_digest, kl_X3_digest, ki_X3_digest, kc_X3_digest, kd_X3_digest⟩
theorem kd_X3_isIn : g_cd yX3_isIn 3 := ⟨by decide +kernel, by decide +kernel, by decide +kernel⟩
theorem ki_X3_isIn : Cond.initialized yX3_isIn.cls ∈ g_WA := g_mem 35 (by decide +kernel)
theorem kc_X3_isIn : Cond.code yX3_isIn cX3_isIn 3 (some .boolean) ∈ g_WA := g_mem 617 (by decide +kernel)
theorem ks_X3_isIn : Cond.static yX3_isIn ∈ g_WA := g_mem 616 (by decide +kernel)
theorem k_X3_44 : g_kS RX3 44 yX3_isIn cX3_isIn 3 (some .boolean) 3 := ⟨g_mem 615 (by decide +kernel), ks_X3_isIn, ki_X3_isIn, kc_X3_isIn, kd_X3_isIn⟩
theorem kd_J6_numberOfLeadingZeros_0f7a4 : g_cd yJ6_numberOfLeadingZeros_0f7a4 1 := ⟨by decide +kernel, by decide +kernel, by decide +kernel⟩
theorem ki_J6_numberOfLeadingZeros_0f7a4 : Cond.initialized yJ6_numberOfLeadingZeros_0f7a4.cls ∈ g_WA := g_mem 44 (by decide +kernel)
theorem kc_J6_numberOfLeadingZeros_0f7a4 : Cond.code yJ6_numberOfLeadingZeros_0f7a4 cJ6_numberOfLeadingZeros_0f7a4 2 (some .int) ∈ g_WA := g_mem 698 (by decide +kernel)
theorem ks_J6_numberOfLeadingZeros_0f7a4 : Cond.static yJ6_numberOfLeadingZeros_0f7a4 ∈ g_WA := g_mem 697 (by decide +kernel)
theorem k_X3_49 : g_kS RX3 49 yJ6_numberOfLeadingZeros_0f7a4 cJ6_numberOfLeadingZeros_0f7a4 2 (some .int) 1 := ⟨g_mem 696 (by decide +kernel), ks_J6_numberOfLeadingZeros_0f7a4, ki_J6_numberOfLeadingZeros_0f7a4, kc_J6_numberOfLeadingZeros_0f7a4, kd_J6_numberOfLeadingZeros_0f7a4⟩
theorem kd_X3_smaller : g_cd yX3_smaller 2 := ⟨by decide +kernel, by decide +kernel, by decide +kernel⟩
theorem ki_X3_smaller : Cond.initialized yX3_smaller.cls ∈ g_WA := g_mem 35 (by decide +kernel)
theorem kc_X3_smaller : Cond.code yX3_smaller cX3_smaller 4 (some .int) ∈ g_WA := g_mem 633 (by decide +kernel)
theorem kn_X3_smaller : Cond.instanceMethod yX3_smaller ∈ g_WA := g_mem 632 (by decide +kernel)
theorem kl_X3_smaller : Cond.selects yX3_smaller.cls yX3_smaller yX3_smaller ∈ g_WA := g_mem 13 (by decide +kernel)
theorem k_X3_55 : g_kV RX3 55 yX3_smaller cX3_smaller 4 (some .int) 2 := ⟨g_mem 630 (by decide +kernel), kn_X3_smaller, kl_X3_smaller, ki_X3_smaller, kc_X3_smaller, kd_X3_smaller⟩
theorem k_X3_59 : Cond.methodLink RX3 59 arraycopyName ∈ g_WA := g_mem 638 (by decide +kernel)
theorem kd_X3_isThere : g_cd yX3_isThere 2 := ⟨by decide +kernel, by decide +kernel, by decide +kernel⟩
theorem ki_X3_isThere : Cond.initialized yX3_isThere.cls ∈ g_WA := g_mem 35 (by decide +kernel)
theorem kc_X3_isThere : Cond.code yX3_isThere cX3_isThere 4 (some .boolean) ∈ g_WA := g_mem 629 (by decide +kernel)
theorem kn_X3_isThere : Cond.instanceMethod yX3_isThere ∈ g_WA := g_mem 628 (by decide +kernel)
theorem kl_X3_isThere : Cond.selects yX3_isThere.cls yX3_isThere yX3_isThere ∈ g_WA := g_mem 12 (by decide +kernel)
theorem k_X3_65 : g_kV RX3 65 yX3_isThere cX3_isThere 4 (some .boolean) 2 := ⟨g_mem 626 (by decide +kernel), kn_X3_isThere, kl_X3_isThere, ki_X3_isThere, kc_X3_isThere, kd_X3_isThere⟩
theorem kd_X3_topBit : g_cd yX3_topBit 1 := ⟨by decide +kernel, by decide +kernel, by decide +kernel⟩
theorem ki_X3_topBit : Cond.initialized yX3_topBit.cls ∈ g_WA := g_mem 35 (by decide +kernel)
theorem kc_X3_topBit : Cond.code yX3_topBit cX3_topBit 1 (some .int) ∈ g_WA := g_mem 695 (by decide +kernel)
theorem ks_X3_topBit : Cond.static yX3_topBit ∈ g_WA := g_mem 694 (by decide +kernel)
theorem k_X3_72 : g_kS RX3 72 yX3_topBit cX3_topBit 1 (some .int) 1 := ⟨g_mem 693 (by decide +kernel), ks_X3_topBit, ki_X3_topBit, kc_X3_topBit, kd_X3_topBit⟩
theorem kd_X3_part : g_cd yX3_part 3 := ⟨by decide +kernel, by decide +kernel, by decide +kernel⟩
theorem ki_X3_part : Cond.initialized yX3_part.cls ∈ g_WA := g_mem 35 (by decide +kernel)
theorem kc_X3_part : Cond.code yX3_part cX3_part 6 (some .int) ∈ g_WA := g_mem 692 (by decide +kernel)
theorem kn_X3_part : Cond.instanceMethod yX3_part ∈ g_WA := g_mem 691 (by decide +kernel)
theorem kl_X3_part : Cond.selects yX3_part.cls yX3_part yX3_part ∈ g_WA := g_mem 20 (by decide +kernel)
theorem k_X3_75 : g_kV RX3 75 yX3_part cX3_part 6 (some .int) 3 := ⟨g_mem 689 (by decide +kernel), kn_X3_part, kl_X3_part, ki_X3_part, kc_X3_part, kd_X3_part⟩
theorem kd_X3_makeSigns : g_cd yX3_makeSigns 0 := ⟨by decide +kernel, by decide +kernel, by decide +kernel⟩
theorem ki_X3_makeSigns : Cond.initialized yX3_makeSigns.cls ∈ g_WA := g_mem 35 (by decide +kernel)
theorem kc_X3_makeSigns : Cond.code yX3_makeSigns cX3_makeSigns 1 none ∈ g_WA := g_mem 688 (by decide +kernel)
theorem kn_X3_makeSigns : Cond.instanceMethod yX3_makeSigns ∈ g_WA := g_mem 687 (by decide +kernel)
theorem kl_X3_makeSigns : Cond.selects yX3_makeSigns.cls yX3_makeSigns yX3_makeSigns ∈ g_WA := g_mem 19 (by decide +kernel)
theorem k_X3_82 : g_kV RX3 82 yX3_makeSigns cX3_makeSigns 1 none 0 := ⟨g_mem 685 (by decide +kernel), kn_X3_makeSigns, kl_X3_makeSigns, ki_X3_makeSigns, kc_X3_makeSigns, kd_X3_makeSigns⟩
theorem k_X3_86 : Cond.methodLink RX3 86 Lib.Math.min.name ∈ g_WA := g_mem 660 (by decide +kernel)
theorem k_X3_91 : Cond.methodLink RX3 91 Lib.Math.max.name ∈ g_WA := g_mem 700 (by decide +kernel)
theorem kd_X3_isWood : g_cd yX3_isWood 1 := ⟨by decide +kernel, by decide +kernel, by decide +kernel⟩
theorem ki_X3_isWood : Cond.initialized yX3_isWood.cls ∈ g_WA := g_mem 35 (by decide +kernel)
theorem kc_X3_isWood : Cond.code yX3_isWood cX3_isWood 1 (some .boolean) ∈ g_WA := g_mem 614 (by decide +kernel)
theorem ks_X3_isWood : Cond.static yX3_isWood ∈ g_WA := g_mem 613 (by decide +kernel)
theorem k_X3_94 : g_kS RX3 94 yX3_isWood cX3_isWood 1 (some .boolean) 1 := ⟨g_mem 612 (by decide +kernel), ks_X3_isWood, ki_X3_isWood, kc_X3_isWood, kd_X3_isWood⟩
theorem kd_X3_no : g_cd yX3_no 1 := ⟨by decide +kernel, by decide +kernel, by decide +kernel⟩
theorem ki_X3_no : Cond.initialized yX3_no.cls ∈ g_WA := g_mem 35 (by decide +kernel)
theorem kc_X3_no : Cond.code yX3_no cX3_no 2 (some .int) ∈ g_WA := g_mem 621 (by decide +kernel)
theorem kn_X3_no : Cond.instanceMethod yX3_no ∈ g_WA := g_mem 620 (by decide +kernel)
theorem kl_X3_no : Cond.selects yX3_no.cls yX3_no yX3_no ∈ g_WA := g_mem 11 (by decide +kernel)
theorem k_X3_98 : g_kV RX3 98 yX3_no cX3_no 2 (some .int) 1 := ⟨g_mem 618 (by decide +kernel), kn_X3_no, kl_X3_no, ki_X3_no, kc_X3_no, kd_X3_no⟩
theorem kd_X3_isName : g_cd yX3_isName 1 := ⟨by decide +kernel, by decide +kernel, by decide +kernel⟩
theorem ki_X3_isName : Cond.initialized yX3_isName.cls ∈ g_WA := g_mem 35 (by decide +kernel)
theorem kc_X3_isName : Cond.code yX3_isName cX3_isName 1 (some .boolean) ∈ g_WA := g_mem 624 (by decide +kernel)
theorem ks_X3_isName : Cond.static yX3_isName ∈ g_WA := g_mem 623 (by decide +kernel)
theorem k_X3_101 : g_kS RX3 101 yX3_isName cX3_isName 1 (some .boolean) 1 := ⟨g_mem 622 (by decide +kernel), ks_X3_isName, ki_X3_isName, kc_X3_isName, kd_X3_isName⟩
theorem kd_X3_insert : g_cd yX3_insert 3 := ⟨by decide +kernel, by decide +kernel, by decide +kernel⟩
theorem ki_X3_insert : Cond.initialized yX3_insert.cls ∈ g_WA := g_mem 35 (by decide +kernel)
theorem kc_X3_insert : Cond.code yX3_insert cX3_insert 6 none ∈ g_WA := g_mem 637 (by decide +kernel)
theorem kn_X3_insert : Cond.instanceMethod yX3_insert ∈ g_WA := g_mem 636 (by decide +kernel)
theorem kl_X3_insert : Cond.selects yX3_insert.cls yX3_insert yX3_insert ∈ g_WA := g_mem 14 (by decide +kernel)
theorem k_X3_104 : g_kV RX3 104 yX3_insert cX3_insert 6 none 3 := ⟨g_mem 634 (by decide +kernel), kn_X3_insert, kl_X3_insert, ki_X3_insert, kc_X3_insert, kd_X3_insert⟩
theorem kd_X3_remove : g_cd yX3_remove 2 := ⟨by decide +kernel, by decide +kernel, by decide +kernel⟩
theorem ki_X3_remove : Cond.initialized yX3_remove.cls ∈ g_WA := g_mem 35 (by decide +kernel)
theorem kc_X3_remove : Cond.code yX3_remove cX3_remove 6 (some .int) ∈ g_WA := g_mem 648 (by decide +kernel)
theorem kn_X3_remove : Cond.instanceMethod yX3_remove ∈ g_WA := g_mem 647 (by decide +kernel)
theorem kl_X3_remove : Cond.selects yX3_remove.cls yX3_remove yX3_remove ∈ g_WA := g_mem 15 (by decide +kernel)
theorem k_X3_108 : g_kV RX3 108 yX3_remove cX3_remove 6 (some .int) 2 := ⟨g_mem 645 (by decide +kernel), kn_X3_remove, kl_X3_remove, ki_X3_remove, kc_X3_remove, kd_X3_remove⟩
theorem kd_X3_common : g_cd yX3_common 0 := ⟨by decide +kernel, by decide +kernel, by decide +kernel⟩
theorem ki_X3_common : Cond.initialized yX3_common.cls ∈ g_WA := g_mem 35 (by decide +kernel)
theorem kc_X3_common : Cond.code yX3_common cX3_common 3 (some .int) ∈ g_WA := g_mem 656 (by decide +kernel)
theorem kn_X3_common : Cond.instanceMethod yX3_common ∈ g_WA := g_mem 655 (by decide +kernel)
theorem kl_X3_common : Cond.selects yX3_common.cls yX3_common yX3_common ∈ g_WA := g_mem 16 (by decide +kernel)
theorem k_X3_111 : g_kV RX3 111 yX3_common cX3_common 3 (some .int) 0 := ⟨g_mem 653 (by decide +kernel), kn_X3_common, kl_X3_common, ki_X3_common, kc_X3_common, kd_X3_common⟩
theorem kd_X3_joined : g_cd yX3_joined 3 := ⟨by decide +kernel, by decide +kernel, by decide +kernel⟩
theorem ki_X3_joined : Cond.initialized yX3_joined.cls ∈ g_WA := g_mem 35 (by decide +kernel)
theorem kc_X3_joined : Cond.code yX3_joined cX3_joined 3 (some .int) ∈ g_WA := g_mem 659 (by decide +kernel)
theorem ks_X3_joined : Cond.static yX3_joined ∈ g_WA := g_mem 658 (by decide +kernel)
theorem k_X3_115 : g_kS RX3 115 yX3_joined cX3_joined 3 (some .int) 3 := ⟨g_mem 657 (by decide +kernel), ks_X3_joined, ki_X3_joined, kc_X3_joined, kd_X3_joined⟩
theorem kd_X3_look : g_cd yX3_look 1 := ⟨by decide +kernel, by decide +kernel, by decide +kernel⟩
theorem ki_X3_look : Cond.initialized yX3_look.cls ∈ g_WA := g_mem 35 (by decide +kernel)
theorem kc_X3_look : Cond.code yX3_look cX3_look 2 none ∈ g_WA := g_mem 684 (by decide +kernel)
theorem kn_X3_look : Cond.instanceMethod yX3_look ∈ g_WA := g_mem 683 (by decide +kernel)
theorem kl_X3_look : Cond.selects yX3_look.cls yX3_look yX3_look ∈ g_WA := g_mem 18 (by decide +kernel)
theorem k_X3_118 : g_kV RX3 118 yX3_look cX3_look 2 none 1 := ⟨g_mem 681 (by decide +kernel), kn_X3_look, kl_X3_look, ki_X3_look, kc_X3_look, kd_X3_look⟩
theorem kd_X3_longest : g_cd yX3_longest 0 := ⟨by decide +kernel, by decide +kernel, by decide +kernel⟩
theorem ki_X3_longest : Cond.initialized yX3_longest.cls ∈ g_WA := g_mem 35 (by decide +kernel)
theorem kc_X3_longest : Cond.code yX3_longest cX3_longest 3 (some .int) ∈ g_WA := g_mem 704 (by decide +kernel)
theorem kn_X3_longest : Cond.instanceMethod yX3_longest ∈ g_WA := g_mem 703 (by decide +kernel)
theorem kl_X3_longest : Cond.selects yX3_longest.cls yX3_longest yX3_longest ∈ g_WA := g_mem 21 (by decide +kernel)
theorem k_X3_122 : g_kV RX3 122 yX3_longest cX3_longest 3 (some .int) 0 := ⟨g_mem 701 (by decide +kernel), kn_X3_longest, kl_X3_longest, ki_X3_longest, kc_X3_longest, kd_X3_longest⟩
theorem kd_X3_allPaths : g_cd yX3_allPaths 0 := ⟨by decide +kernel, by decide +kernel, by decide +kernel⟩
theorem ki_X3_allPaths : Cond.initialized yX3_allPaths.cls ∈ g_WA := g_mem 35 (by decide +kernel)
theorem kc_X3_allPaths : Cond.code yX3_allPaths cX3_allPaths 3 (some .int) ∈ g_WA := g_mem 708 (by decide +kernel)
theorem kn_X3_allPaths : Cond.instanceMethod yX3_allPaths ∈ g_WA := g_mem 707 (by decide +kernel)
theorem kl_X3_allPaths : Cond.selects yX3_allPaths.cls yX3_allPaths yX3_allPaths ∈ g_WA := g_mem 22 (by decide +kernel)
theorem k_X3_125 : g_kV RX3 125 yX3_allPaths cX3_allPaths 3 (some .int) 0 := ⟨g_mem 705 (by decide +kernel), kn_X3_allPaths, kl_X3_allPaths, ki_X3_allPaths, kc_X3_allPaths, kd_X3_allPaths⟩
theorem kd_X3_shared : g_cd yX3_shared 2 := ⟨by decide +kernel, by decide +kernel, by decide +kernel⟩
theorem ki_X3_shared : Cond.initialized yX3_shared.cls ∈ g_WA := g_mem 35 (by decide +kernel)
theorem kc_X3_shared : Cond.code yX3_shared cX3_shared 2 (some .int) ∈ g_WA := g_mem 711 (by decide +kernel)
theorem ks_X3_shared : Cond.static yX3_shared ∈ g_WA := g_mem 710 (by decide +kernel)
theorem k_X3_128 : g_kS RX3 128 yX3_shared cX3_shared 2 (some .int) 2 := ⟨g_mem 709 (by decide +kernel), ks_X3_shared, ki_X3_shared, kc_X3_shared, kd_X3_shared⟩
theorem kd_X3_bitsOfPosts : g_cd yX3_bitsOfPosts 0 := ⟨by decide +kernel, by decide +kernel, by decide +kernel⟩
theorem ki_X3_bitsOfPosts : Cond.initialized yX3_bitsOfPosts.cls ∈ g_WA := g_mem 35 (by decide +kernel)
theorem kc_X3_bitsOfPosts : Cond.code yX3_bitsOfPosts cX3_bitsOfPosts 3 (some .int) ∈ g_WA := g_mem 715 (by decide +kernel)
theorem kn_X3_bitsOfPosts : Cond.instanceMethod yX3_bitsOfPosts ∈ g_WA := g_mem 714 (by decide +kernel)
theorem kl_X3_bitsOfPosts : Cond.selects yX3_bitsOfPosts.cls yX3_bitsOfPosts yX3_bitsOfPosts ∈ g_WA := g_mem 23 (by decide +kernel)
theorem k_X3_131 : g_kV RX3 131 yX3_bitsOfPosts cX3_bitsOfPosts 3 (some .int) 0 := ⟨g_mem 712 (by decide +kernel), kn_X3_bitsOfPosts, kl_X3_bitsOfPosts, ki_X3_bitsOfPosts, kc_X3_bitsOfPosts, kd_X3_bitsOfPosts⟩
theorem kd_X3_counted : g_cd yX3_counted 2 := ⟨by decide +kernel, by decide +kernel, by decide +kernel⟩
theorem ki_X3_counted : Cond.initialized yX3_counted.cls ∈ g_WA := g_mem 35 (by decide +kernel)
theorem kc_X3_counted : Cond.code yX3_counted cX3_counted 5 (some .int) ∈ g_WA := g_mem 680 (by decide +kernel)
theorem kn_X3_counted : Cond.instanceMethod yX3_counted ∈ g_WA := g_mem 679 (by decide +kernel)
theorem kl_X3_counted : Cond.selects yX3_counted.cls yX3_counted yX3_counted ∈ g_WA := g_mem 17 (by decide +kernel)
theorem k_X3_134 : g_kV RX3 134 yX3_counted cX3_counted 5 (some .int) 2 := ⟨g_mem 677 (by decide +kernel), kn_X3_counted, kl_X3_counted, ki_X3_counted, kc_X3_counted, kd_X3_counted⟩
theorem kd_X3_signTold : g_cd yX3_signTold 2 := ⟨by decide +kernel, by decide +kernel, by decide +kernel⟩
theorem ki_X3_signTold : Cond.initialized yX3_signTold.cls ∈ g_WA := g_mem 35 (by decide +kernel)
theorem kc_X3_signTold : Cond.code yX3_signTold cX3_signTold 3 (some .int) ∈ g_WA := g_mem 723 (by decide +kernel)
theorem kn_X3_signTold : Cond.instanceMethod yX3_signTold ∈ g_WA := g_mem 722 (by decide +kernel)
theorem kl_X3_signTold : Cond.selects yX3_signTold.cls yX3_signTold yX3_signTold ∈ g_WA := g_mem 24 (by decide +kernel)
theorem k_X3_137 : g_kV RX3 137 yX3_signTold cX3_signTold 3 (some .int) 2 := ⟨g_mem 720 (by decide +kernel), kn_X3_signTold, kl_X3_signTold, ki_X3_signTold, kc_X3_signTold, kd_X3_signTold⟩
theorem kd_X3_walkTo : g_cd yX3_walkTo 1 := ⟨by decide +kernel, by decide +kernel, by decide +kernel⟩
theorem ki_X3_walkTo : Cond.initialized yX3_walkTo.cls ∈ g_WA := g_mem 35 (by decide +kernel)
theorem kc_X3_walkTo : Cond.code yX3_walkTo cX3_walkTo 3 (some .int) ∈ g_WA := g_mem 731 (by decide +kernel)
theorem kn_X3_walkTo : Cond.instanceMethod yX3_walkTo ∈ g_WA := g_mem 730 (by decide +kernel)
theorem kl_X3_walkTo : Cond.selects yX3_walkTo.cls yX3_walkTo yX3_walkTo ∈ g_WA := g_mem 25 (by decide +kernel)
theorem k_X3_140 : g_kV RX3 140 yX3_walkTo cX3_walkTo 3 (some .int) 1 := ⟨g_mem 728 (by decide +kernel), kn_X3_walkTo, kl_X3_walkTo, ki_X3_walkTo, kc_X3_walkTo, kd_X3_walkTo⟩
theorem kd_X3_ranged : g_cd yX3_ranged 4 := ⟨by decide +kernel, by decide +kernel, by decide +kernel⟩
theorem ki_X3_ranged : Cond.initialized yX3_ranged.cls ∈ g_WA := g_mem 35 (by decide +kernel)
theorem kc_X3_ranged : Cond.code yX3_ranged cX3_ranged 8 (some .int) ∈ g_WA := g_mem 747 (by decide +kernel)
theorem kn_X3_ranged : Cond.instanceMethod yX3_ranged ∈ g_WA := g_mem 746 (by decide +kernel)
theorem kl_X3_ranged : Cond.selects yX3_ranged.cls yX3_ranged yX3_ranged ∈ g_WA := g_mem 26 (by decide +kernel)
theorem k_X3_143 : g_kV RX3 143 yX3_ranged cX3_ranged 8 (some .int) 4 := ⟨g_mem 744 (by decide +kernel), kn_X3_ranged, kl_X3_ranged, ki_X3_ranged, kc_X3_ranged, kd_X3_ranged⟩
theorem kd_X3_farthest : g_cd yX3_farthest 1 := ⟨by decide +kernel, by decide +kernel, by decide +kernel⟩
theorem ki_X3_farthest : Cond.initialized yX3_farthest.cls ∈ g_WA := g_mem 35 (by decide +kernel)
theorem kc_X3_farthest : Cond.code yX3_farthest cX3_farthest 5 (some .int) ∈ g_WA := g_mem 759 (by decide +kernel)
theorem kn_X3_farthest : Cond.instanceMethod yX3_farthest ∈ g_WA := g_mem 758 (by decide +kernel)
theorem kl_X3_farthest : Cond.selects yX3_farthest.cls yX3_farthest yX3_farthest ∈ g_WA := g_mem 27 (by decide +kernel)
theorem k_X3_147 : g_kV RX3 147 yX3_farthest cX3_farthest 5 (some .int) 1 := ⟨g_mem 756 (by decide +kernel), kn_X3_farthest, kl_X3_farthest, ki_X3_farthest, kc_X3_farthest, kd_X3_farthest⟩
theorem kd_X3_lookAtBoth : g_cd yX3_lookAtBoth 0 := ⟨by decide +kernel, by decide +kernel, by decide +kernel⟩
theorem ki_X3_lookAtBoth : Cond.initialized yX3_lookAtBoth.cls ∈ g_WA := g_mem 35 (by decide +kernel)
theorem kc_X3_lookAtBoth : Cond.code yX3_lookAtBoth cX3_lookAtBoth 5 none ∈ g_WA := g_mem 775 (by decide +kernel)
theorem kn_X3_lookAtBoth : Cond.instanceMethod yX3_lookAtBoth ∈ g_WA := g_mem 774 (by decide +kernel)
theorem kl_X3_lookAtBoth : Cond.selects yX3_lookAtBoth.cls yX3_lookAtBoth yX3_lookAtBoth ∈ g_WA := g_mem 29 (by decide +kernel)
theorem k_X3_150 : g_kV RX3 150 yX3_lookAtBoth cX3_lookAtBoth 5 none 0 := ⟨g_mem 772 (by decide +kernel), kn_X3_lookAtBoth, kl_X3_lookAtBoth, ki_X3_lookAtBoth, kc_X3_lookAtBoth, kd_X3_lookAtBoth⟩
theorem kd_X3_wouldBe : g_cd yX3_wouldBe 1 := ⟨by decide +kernel, by decide +kernel, by decide +kernel⟩
theorem ki_X3_wouldBe : Cond.initialized yX3_wouldBe.cls ∈ g_WA := g_mem 35 (by decide +kernel)
theorem kc_X3_wouldBe : Cond.code yX3_wouldBe cX3_wouldBe 2 (some .int) ∈ g_WA := g_mem 771 (by decide +kernel)
theorem kn_X3_wouldBe : Cond.instanceMethod yX3_wouldBe ∈ g_WA := g_mem 770 (by decide +kernel)
theorem kl_X3_wouldBe : Cond.selects yX3_wouldBe.cls yX3_wouldBe yX3_wouldBe ∈ g_WA := g_mem 28 (by decide +kernel)
theorem k_X3_153 : g_kV RX3 153 yX3_wouldBe cX3_wouldBe 2 (some .int) 1 := ⟨g_mem 768 (by decide +kernel), kn_X3_wouldBe, kl_X3_wouldBe, ki_X3_wouldBe, kc_X3_wouldBe, kd_X3_wouldBe⟩
theorem kd_X3_lookWithout : g_cd yX3_lookWithout 2 := ⟨by decide +kernel, by decide +kernel, by decide +kernel⟩
theorem ki_X3_lookWithout : Cond.initialized yX3_lookWithout.cls ∈ g_WA := g_mem 35 (by decide +kernel)
theorem kc_X3_lookWithout : Cond.code yX3_lookWithout cX3_lookWithout 3 none ∈ g_WA := g_mem 784 (by decide +kernel)
theorem kn_X3_lookWithout : Cond.instanceMethod yX3_lookWithout ∈ g_WA := g_mem 783 (by decide +kernel)
theorem kl_X3_lookWithout : Cond.selects yX3_lookWithout.cls yX3_lookWithout yX3_lookWithout ∈ g_WA := g_mem 30 (by decide +kernel)
theorem k_X3_156 : g_kV RX3 156 yX3_lookWithout cX3_lookWithout 3 none 2 := ⟨g_mem 781 (by decide +kernel), kn_X3_lookWithout, kl_X3_lookWithout, ki_X3_lookWithout, kc_X3_lookWithout, kd_X3_lookWithout⟩
theorem kd_X1_init : g_cd yX1_init 0 := ⟨by decide +kernel, by decide +kernel, by decide +kernel⟩
theorem ki_X1_init : Cond.initialized yX1_init.cls ∈ g_WA := g_mem 33 (by decide +kernel)
theorem kc_X1_init : Cond.code yX1_init cX1_init 1 none ∈ g_WA := g_mem 57 (by decide +kernel)
theorem kn_X1_init : Cond.instanceMethod yX1_init ∈ g_WA := g_mem 56 (by decide +kernel)
theorem kd_X0_init : g_cd yX0_init 0 := ⟨by decide +kernel, by decide +kernel, by decide +kernel⟩
theorem ki_X0_init : Cond.initialized yX0_init.cls ∈ g_WA := g_mem 34 (by decide +kernel)
theorem kc_X0_init : Cond.code yX0_init cX0_init 1 none ∈ g_WA := g_mem 74 (by decide +kernel)
theorem kn_X0_init : Cond.instanceMethod yX0_init ∈ g_WA := g_mem 73 (by decide +kernel)
theorem kd_X2_read : g_cd yX2_read 2 := ⟨by decide +kernel, by decide +kernel, by decide +kernel⟩
theorem ki_X2_read : Cond.initialized yX2_read.cls ∈ g_WA := g_mem 32 (by decide +kernel)
theorem kc_X2_read : Cond.code yX2_read cX2_read 2 (some .int) ∈ g_WA := g_mem 150 (by decide +kernel)
theorem ks_X2_read : Cond.static yX2_read ∈ g_WA := g_mem 149 (by decide +kernel)
theorem k_X0_56 : g_kN RX0 56 yX2_read cX2_read 2 (some .int) 2 := ⟨by decide +kernel, ks_X2_read, ki_X2_read, kc_X2_read, kd_X2_read⟩
theorem k_X0_64 : g_kN RX0 64 yX2_firstUnlikeBit cX2_firstUnlikeBit 5 (some .int) 2 := ⟨by decide +kernel, ks_X2_firstUnlikeBit, ki_X2_firstUnlikeBit, kc_X2_firstUnlikeBit, kd_X2_firstUnlikeBit⟩
theorem kd_X2_hasBit : g_cd yX2_hasBit 2 := ⟨by decide +kernel, by decide +kernel, by decide +kernel⟩
theorem ki_X2_hasBit : Cond.initialized yX2_hasBit.cls ∈ g_WA := g_mem 32 (by decide +kernel)
theorem kc_X2_hasBit : Cond.code yX2_hasBit cX2_hasBit 2 (some .boolean) ∈ g_WA := g_mem 165 (by decide +kernel)
theorem ks_X2_hasBit : Cond.static yX2_hasBit ∈ g_WA := g_mem 164 (by decide +kernel)
theorem k_X0_77 : g_kN RX0 77 yX2_hasBit cX2_hasBit 2 (some .boolean) 2 := ⟨by decide +kernel, ks_X2_hasBit, ki_X2_hasBit, kc_X2_hasBit, kd_X2_hasBit⟩
theorem kd_X2_write : g_cd yX2_write 3 := ⟨by decide +kernel, by decide +kernel, by decide +kernel⟩
theorem ki_X2_write : Cond.initialized yX2_write.cls ∈ g_WA := g_mem 32 (by decide +kernel)
theorem kc_X2_write : Cond.code yX2_write cX2_write 3 none ∈ g_WA := g_mem 143 (by decide +kernel)
theorem ks_X2_write : Cond.static yX2_write ∈ g_WA := g_mem 142 (by decide +kernel)
theorem k_X0_81 : g_kN RX0 81 yX2_write cX2_write 3 none 3 := ⟨by decide +kernel, ks_X2_write, ki_X2_write, kc_X2_write, kd_X2_write⟩
theorem k_X1_22 : g_kN RX1 22 yX2_read cX2_read 2 (some .int) 2 := ⟨by decide +kernel, ks_X2_read, ki_X2_read, kc_X2_read, kd_X2_read⟩
theorem k_X1_43 : g_kN RX1 43 yX2_write cX2_write 3 none 3 := ⟨by decide +kernel, ks_X2_write, ki_X2_write, kc_X2_write, kd_X2_write⟩
theorem k_X1_63 : g_kN RX1 63 yX2_firstUnlikeBit cX2_firstUnlikeBit 5 (some .int) 2 := ⟨by decide +kernel, ks_X2_firstUnlikeBit, ki_X2_firstUnlikeBit, kc_X2_firstUnlikeBit, kd_X2_firstUnlikeBit⟩
theorem wf_X2_12 : Cond.fieldLink RX2 12 RX2 "woodZero" "LFingerPosts$Villages;" ∈ g_WA := g_mem 107 (by decide +kernel)
theorem wf_X2_16 : Cond.fieldLink RX2 16 RX2 "woodOne" "LFingerPosts$Villages;" ∈ g_WA := g_mem 108 (by decide +kernel)
theorem wf_X2_19 : Cond.fieldLink RX2 19 RX2 "both" "LFingerPosts$Villages;" ∈ g_WA := g_mem 109 (by decide +kernel)
theorem wf_X2_25 : Cond.fieldLink RX2 25 RX2 "signs" "LFingerPosts$Signs;" ∈ g_WA := g_mem 110 (by decide +kernel)
theorem wf_X0_9 : Cond.fieldLink RX0 9 RX0 "bit" "[I" ∈ g_WA := g_mem 76 (by decide +kernel)
theorem wf_X0_15 : Cond.fieldLink RX0 15 RX0 "firstVillage" "[I" ∈ g_WA := g_mem 77 (by decide +kernel)
theorem wf_X0_18 : Cond.fieldLink RX0 18 RX0 "names" "[I" ∈ g_WA := g_mem 78 (by decide +kernel)
theorem wf_X0_21 : Cond.fieldLink RX0 21 RX0 "smallest" "[I" ∈ g_WA := g_mem 79 (by decide +kernel)
theorem wf_X0_24 : Cond.fieldLink RX0 24 RX0 "greatest" "[I" ∈ g_WA := g_mem 80 (by decide +kernel)
theorem wf_X0_27 : Cond.fieldLink RX0 27 RX0 "lowSide" "[I" ∈ g_WA := g_mem 81 (by decide +kernel)
theorem wf_X0_30 : Cond.fieldLink RX0 30 RX0 "highSide" "[I" ∈ g_WA := g_mem 82 (by decide +kernel)
theorem wf_X0_33 : Cond.fieldLink RX0 33 RX0 "postsAhead" "[I" ∈ g_WA := g_mem 83 (by decide +kernel)
theorem wf_X0_36 : Cond.fieldLink RX0 36 RX0 "namesBeside" "[I" ∈ g_WA := g_mem 84 (by decide +kernel)
theorem wf_X0_39 : Cond.fieldLink RX0 39 RX0 "size" "I" ∈ g_WA := g_mem 85 (by decide +kernel)
theorem wf_X1_9 : Cond.fieldLink RX1 9 RX1 "names" "[I" ∈ g_WA := g_mem 59 (by decide +kernel)
theorem wf_X1_15 : Cond.fieldLink RX1 15 RX1 "miles" "[I" ∈ g_WA := g_mem 60 (by decide +kernel)
theorem wf_X1_18 : Cond.fieldLink RX1 18 RX1 "size" "I" ∈ g_WA := g_mem 61 (by decide +kernel)
theorem wf_X3_9 : Cond.fieldLink RX3 9 RX3 "size" "[I" ∈ g_WA := g_mem 565 (by decide +kernel)
theorem wf_X3_13 : Cond.fieldLink RX3 13 RX3 "names" "[I" ∈ g_WA := g_mem 566 (by decide +kernel)
theorem wf_X3_16 : Cond.fieldLink RX3 16 RX3 "miles" "[I" ∈ g_WA := g_mem 567 (by decide +kernel)
theorem wf_X3_19 : Cond.fieldLink RX3 19 RX3 "row" "[I" ∈ g_WA := g_mem 568 (by decide +kernel)
theorem wf_X3_22 : Cond.fieldLink RX3 22 RX3 "bit" "[I" ∈ g_WA := g_mem 571 (by decide +kernel)
theorem wf_X3_25 : Cond.fieldLink RX3 25 RX3 "first" "[I" ∈ g_WA := g_mem 572 (by decide +kernel)
theorem wf_X3_28 : Cond.fieldLink RX3 28 RX3 "behind" "[I" ∈ g_WA := g_mem 573 (by decide +kernel)
theorem wf_X3_31 : Cond.fieldLink RX3 31 RX3 "low" "[I" ∈ g_WA := g_mem 574 (by decide +kernel)
theorem wf_X3_34 : Cond.fieldLink RX3 34 RX3 "high" "[I" ∈ g_WA := g_mem 575 (by decide +kernel)
theorem wf_X3_37 : Cond.fieldLink RX3 37 RX3 "ahead" "[I" ∈ g_WA := g_mem 576 (by decide +kernel)
theorem wf_X3_40 : Cond.fieldLink RX3 40 RX3 "thrown" "I" ∈ g_WA := g_mem 564 (by decide +kernel)
theorem wf_X3_69 : Cond.fieldLink RX3 69 RX3 "signs" "I" ∈ g_WA := g_mem 570 (by decide +kernel)
theorem wf_X3_79 : Cond.fieldLink RX3 79 RX3 "rowSize" "I" ∈ g_WA := g_mem 569 (by decide +kernel)
theorem k_max : Cond.static Lib.Math.max.name ∈ g_WA ∧ Cond.initialized "java/lang/Math" ∈ g_WA ∧ Cond.code Lib.Math.max.name Lib.Math.max.code 2 (some .int) ∈ g_WA := ⟨g_mem 183 (by decide +kernel), g_mem 43 (by decide +kernel), g_mem 184 (by decide +kernel)⟩
theorem k_min : Cond.static Lib.Math.min.name ∈ g_WA ∧ Cond.initialized "java/lang/Math" ∈ g_WA ∧ Cond.code Lib.Math.min.name Lib.Math.min.code 2 (some .int) ∈ g_WA := ⟨g_mem 418 (by decide +kernel), g_mem 43 (by decide +kernel), g_mem 419 (by decide +kernel)⟩
theorem k_copy : Cond.native arraycopyName ∈ g_WA ∧ Cond.static arraycopyName ∈ g_WA ∧ Cond.initialized "java/lang/System" ∈ g_WA := ⟨g_mem 640 (by decide +kernel), g_mem 639 (by decide +kernel), g_mem 42 (by decide +kernel)⟩
theorem wl_L_8 : Cond.classLink RL 8 "FingerPosts" ∈ g_WA := g_mem 45 (by decide +kernel)
theorem wl_X2_9 : Cond.classLink RX2 9 "FingerPosts$Villages" ∈ g_WA := g_mem 53 (by decide +kernel)
theorem wl_X2_22 : Cond.classLink RX2 22 "FingerPosts$Signs" ∈ g_WA := g_mem 70 (by decide +kernel)
theorem wC_X2_151 : Cond.constantLong RX2 151 (1747) ∈ g_WA := g_mem 124 (by decide +kernel)
theorem wC_X2_161 : Cond.constantLong RX2 161 (31) ∈ g_WA := g_mem 210 (by decide +kernel)
theorem wl_L_13 : Cond.classLink RL 13 "java/lang/IndexOutOfBoundsException" ∈ g_WA := g_mem 254 (by decide +kernel)
theorem wl_L_15 : Cond.classLink RL 15 "java/lang/IllegalArgumentException" ∈ g_WA := g_mem 255 (by decide +kernel)
theorem wl_L_17 : Cond.classLink RL 17 "java/lang/IllegalStateException" ∈ g_WA := g_mem 256 (by decide +kernel)
theorem wl_X2_180 : Cond.classLink RX2 180 "java/lang/IndexOutOfBoundsException" ∈ g_WA := g_mem 267 (by decide +kernel)
theorem wc_X2_185 : Cond.constant RX2 185 (65535) ∈ g_WA := g_mem 338 (by decide +kernel)
theorem wl_X2_119 : Cond.classLink RX2 119 "java/lang/IllegalArgumentException" ∈ g_WA := g_mem 339 (by decide +kernel)
theorem wl_X2_51 : Cond.classLink RX2 51 "java/lang/IllegalStateException" ∈ g_WA := g_mem 367 (by decide +kernel)
theorem wl_L_76 : Cond.classLink RL 76 "FingerPostsModel" ∈ g_WA := g_mem 558 (by decide +kernel)
theorem wc_X3_48 : Cond.constant RX3 48 (65535) ∈ g_WA := g_mem 625 (by decide +kernel)
theorem wc_X3_85 : Cond.constant RX3 85 (65536) ∈ g_WA := g_mem 776 (by decide +kernel)
theorem wC_X3_160 : Cond.constantLong RX3 160 (1747) ∈ g_WA := g_mem 793 (by decide +kernel)
theorem wC_X3_162 : Cond.constantLong RX3 162 (31) ∈ g_WA := g_mem 794 (by decide +kernel)
end
section
/-! PURE: a wood is a list of (name, miles) -/
abbrev g_L : Type := List (Int32 × Int32)
def fn_ (L : g_L) (j : Nat) : Int32 := (L.getD j (-1, -1)).1
def gn_ (L : g_L) (j : Nat) : Int32 := (L.getD j (-1, -1)).2
theorem fn_out {L : g_L} {j : Nat} (h : L.length ≤ j) : fn_ L j = -1 := by simp [fn_, h]
theorem gn_out {L : g_L} {j : Nat} (h : L.length ≤ j) : gn_ L j = -1 := by simp [gn_, h]
/-- a row's element, -1 outside -/
def rd_ (F : Nat → Int32) (n : Nat) (i : Int32) : Int32 := if i < 0 then -1 else if nI n ≤ i then -1 else F i.toNatClampNeg
def wr_ (F : Nat → Int32) (n : Nat) (i x : Int32) : Nat → Int32 := if i < 0 then F else if nI n ≤ i then F else upd F i.toNatClampNeg x
theorem rd_in {F : Nat → Int32} {n j : Nat} (h : j < n) (hn : n < 2 ^ 31) : rd_ F n (nI j) = F j := by
  rw [rd_, if_neg (nI_pos (Nat.lt_trans h hn)), if_neg (nI_ge h hn), nI_clamp (Nat.lt_trans h hn)]
theorem rd_out {F : Nat → Int32} {n j : Nat} (h : n ≤ j) (hj : j < 2 ^ 31) : rd_ F n (nI j) = -1 := by
  rw [rd_, if_neg (nI_pos hj), if_pos (nI_le h hj)]
theorem rd_neg {F : Nat → Int32} {n : Nat} {i : Int32} (h : i < 0) : rd_ F n i = -1 := by rw [rd_, if_pos h]
theorem wr_in {F : Nat → Int32} {n j : Nat} {x : Int32} (h : j < n) (hn : n < 2 ^ 31) : wr_ F n (nI j) x = upd F j x := by
  rw [wr_, if_neg (nI_pos (Nat.lt_trans h hn)), if_neg (nI_ge h hn), nI_clamp (Nat.lt_trans h hn)]
theorem g_vpin {i : Int32} {n : Nat} (h1 : ¬ i < 0) (h2 : ¬ nI n ≤ i) (hn : n < 2 ^ 31) : vp_in i n := by
  obtain ⟨j, hj, rfl⟩ := nI_of h1
  have : j < n := Nat.not_le.mp (mt (fun h => nI_le h hj) h2)
  exact vp_in_nI this hn
def hb_ (x b : Int32) : Bool := decide ((x >>> (b &&& 31)) &&& 1 = 1)
/-- the step of the search for the first unlike bit -/
def fs_ (u : Int32) (b h : Nat) : Nat := if u >>> (nI (b + h) &&& 31) = 0 then b else b + h
def fo_ (u : Int32) (b h : Nat) : Nat := if h = 0 then b else fo_ u (fs_ u b h) (h / 2)
termination_by h
decreasing_by omega
def fub_ (a b : Int32) : Int32 := if a ^^^ b = 0 then -1 else nI (fo_ (a ^^^ b) 0 8)
theorem fo_0 (u : Int32) (b : Nat) : fo_ u b 0 = b := by rw [fo_]; rfl
theorem fo_s (u : Int32) (b h : Nat) (hh : 0 < h) : fo_ u b h = fo_ u (fs_ u b h) (h / 2) := by rw [fo_, if_neg (by omega)]
theorem fs_le (u : Int32) (b h : Nat) : fs_ u b h ≤ b + h := by unfold fs_; split <;> omega
/-- how many names are smaller, at the list's start -/
def rk_ : g_L → Int32 → Nat
  | [], _ => 0
  | p :: t, x => if p.1 < x then rk_ t x + 1 else 0
theorem rk_le : ∀ (L : g_L) (x : Int32), rk_ L x ≤ L.length
  | [], _ => Nat.le_refl 0
  | p :: t, x => by
    rw [rk_]
    split
    · exact Nat.succ_le_succ (rk_le t x)
    · exact Nat.zero_le _
theorem rk_lt : ∀ (L : g_L) (x : Int32) (j : Nat), j < rk_ L x → fn_ L j < x
  | [], _, j, h => absurd h (Nat.not_lt_zero j)
  | p :: t, x, j, h => by
    rw [rk_] at h
    split at h
    · cases j with
      | zero => simpa [fn_]
      | succ j => exact rk_lt t x j (Nat.lt_of_succ_lt_succ h)
    · exact absurd h (Nat.not_lt_zero j)
theorem rk_at : ∀ (L : g_L) (x : Int32), rk_ L x < L.length → ¬ fn_ L (rk_ L x) < x
  | [], _, h => absurd h (Nat.not_lt_zero _)
  | p :: t, x, h => by
    rw [rk_] at h ⊢
    split
    · rw [if_pos (by assumption)] at h
      exact rk_at t x (Nat.lt_of_succ_lt_succ h)
    · next hn => simpa [fn_] using hn
theorem rk_eq {L : g_L} {x : Int32} {i : Nat} (hi : i ≤ L.length) (h : ∀ j, j < i → fn_ L j < x) (h2 : i < L.length → ¬ fn_ L i < x) : rk_ L x = i := by
  rcases Nat.lt_trichotomy (rk_ L x) i with q | q | q
  · exact absurd (h _ q) (rk_at L x (Nat.lt_of_lt_of_le q hi))
  · exact q
  · exact absurd (rk_lt L x i q) (h2 (Nat.lt_of_lt_of_le q (rk_le L x)))
def mo_ (L : g_L) (x : Int32) : Int32 := if fn_ L (rk_ L x) = x then gn_ L (rk_ L x) else -1
/-- set a village's miles, or put it up -/
def st_ (L : g_L) (x y : Int32) : g_L := if fn_ L (rk_ L x) = x then L.set (rk_ L x) (x, y) else L.take (rk_ L x) ++ (x, y) :: L.drop (rk_ L x)
/-- what nameAt answers -/
def na_ (L : g_L) (k : Int32) : Int32 := if k < 0 then -1 else fn_ L k.toNatClampNeg
def ma_ (L : g_L) (k : Int32) : Int32 := if k < 0 then -1 else gn_ L k.toNatClampNeg
theorem na_n {L : g_L} {j : Nat} (h : j < 2 ^ 31) : na_ L (nI j) = fn_ L j := by rw [na_, if_neg (nI_pos h), nI_clamp h]
theorem ma_n {L : g_L} {j : Nat} (h : j < 2 ^ 31) : ma_ L (nI j) = gn_ L j := by rw [ma_, if_neg (nI_pos h), nI_clamp h]
/-- a Villages object at the cells v, v+1, v+2 -/
def g_V (D : va_G) (σ : Nat → va_E) (v : Nat) (L : g_L) : Prop := ∃ F G : Nat → Int32, σ v = .inr (1, [.ref (ad_ D (v + 1)), .ref (ad_ D (v + 2)), .int (nI L.length)]) ∧ σ (v + 1) = .inl (g_cI D, 48, .inl F) ∧ σ (v + 2) = .inl (g_cI D, 48, .inl G) ∧ (∀ j, j < L.length → F j = fn_ L j ∧ G j = gn_ L j) ∧ L.length ≤ 48 ∧ v + 2 < 33
theorem g_V.off {D : va_G} {σ σ' : Nat → va_E} {v lo hi : Nat} {L : g_L} (h : g_V D σ v L) (ho : g_off lo hi σ σ') (hd : v + 2 < lo ∨ hi < v) : g_V D σ' v L := by
  obtain ⟨F, G, h0, h1, h2, h3⟩ := h
  exact ⟨F, G, by rw [ho v (by omega)]; exact h0, by rw [ho (v + 1) (by omega)]; exact h1, by rw [ho (v + 2) (by omega)]; exact h2, h3⟩
theorem na_out {L : g_L} {k : Int32} (h : nI L.length ≤ k) (hL : L.length < 2 ^ 31) : na_ L k = -1 := by
  unfold na_
  split
  · rfl
  · next h0 =>
    obtain ⟨j, hj, rfl⟩ := nI_of h0
    rw [nI_clamp hj]
    exact fn_out ((nI_leI hL hj).mp h)
theorem ma_out {L : g_L} {k : Int32} (h : nI L.length ≤ k) (hL : L.length < 2 ^ 31) : ma_ L k = -1 := by
  unfold ma_
  split
  · rfl
  · next h0 =>
    obtain ⟨j, hj, rfl⟩ := nI_of h0
    rw [nI_clamp hj]
    exact gn_out ((nI_leI hL hj).mp h)
theorem na_rd {L : g_L} {F : Nat → Int32} {k : Int32} (h : ¬ nI L.length ≤ k) (hL : L.length ≤ 48) (hF : ∀ j, j < L.length → F j = fn_ L j) : na_ L k = rd_ F 48 k := by
  unfold na_ rd_
  split
  · rfl
  · next h0 =>
    obtain ⟨j, hj, rfl⟩ := nI_of h0
    have hlt : j < L.length := Nat.not_le.mp (mt (fun q => nI_le q hj) h)
    rw [nI_clamp hj, if_neg (nI_ge (by omega) (by omega)), hF j hlt]
theorem ma_rd {L : g_L} {F : Nat → Int32} {k : Int32} (h : ¬ nI L.length ≤ k) (hL : L.length ≤ 48) (hF : ∀ j, j < L.length → F j = gn_ L j) : ma_ L k = rd_ F 48 k := by
  unfold ma_ rd_
  split
  · rfl
  · next h0 =>
    obtain ⟨j, hj, rfl⟩ := nI_of h0
    have hlt : j < L.length := Nat.not_le.mp (mt (fun q => nI_le q hj) h)
    rw [nI_clamp hj, if_neg (nI_ge (by omega) (by omega)), hF j hlt]
end
section
abbrev m_X2_read_rm : Room := { frames := 8, cells := 0, slots := 0, locals := 200 }
set_option maxHeartbeats 4000000 in
set_option maxRecDepth 100000 in
theorem m_X2_read (l : Launch) (D : va_G) (hAD : g_AD D) (σ : Nat → va_E) (q n : Nat) (F : Nat → Int32) (i : Int32) (hq : q < 33) (hn : n < 2 ^ 31) (h0 : σ q = .inl (g_cI D, n, .inl F)) : g_M l D yX2_read cX2_read 2 (some .int) m_X2_read_rm [.ref (ad_ D q), .int i] σ (fun v1 σ1 => v1 = some (.int (rd_ F n i)) ∧ σ = σ1) := by
  refine g_ofW [(0, .ref (ad_ D q)), (1, .int i)] (by decide +kernel) (Nat.le_of_ble_eq_true rfl) rfl ?_
  intro p e s m args below meth c hx hb hr hml hown hlocks hts hE hZ hP hS hnm ls hl
  have hown : s.vm.findClass RX2 = some m.cls := hown
  generalize hQ : MQ _ _ _ _ _ _ _ = Q
  refine lv_iload_n hx hb dX2_read_0 rfl (lv_at hl 1 rfl) ?_
  refine lv_if_lt (tgt := 16) hx hb dX2_read_1 (by decide) (fun h1 => ?_) (fun h1 => ?_)
  · refine lv_iconst (v := (-1)) hx hb dX2_read_16 (by decide) ?_
    rw [← hQ]
    exact W.iret (v := (-1)) hx hb hr (fun t ht _ => g_fin (⟨by first | rw [rd_, if_pos h1] | rw [rd_, if_neg h1, if_pos h7] | rw [rd_, if_neg h1, if_neg h7], rfl⟩) hP hS ht) hS.2.2 dX2_read_17 hlocks
  · refine lv_iload_n hx hb dX2_read_4 rfl (lv_at hl 1 rfl) ?_
    refine lv_aload_n hx hb dX2_read_5 rfl (lv_at hl 0 rfl) ?_
    refine g_alen hx hb hE hP (by omega) h0 dX2_read_6 ?_
    refine lv_icmp_ge (tgt := 16) hx hb dX2_read_7 (by decide) (fun h7 => ?_) (fun h7 => ?_)
    · refine lv_iconst (v := (-1)) hx hb dX2_read_16 (by decide) ?_
      rw [← hQ]
      exact W.iret (v := (-1)) hx hb hr (fun t ht _ => g_fin (⟨by first | rw [rd_, if_pos h1] | rw [rd_, if_neg h1, if_pos h7] | rw [rd_, if_neg h1, if_neg h7], rfl⟩) hP hS ht) hS.2.2 dX2_read_17 hlocks
    · refine lv_aload_n hx hb dX2_read_10 rfl (lv_at hl 0 rfl) ?_
      refine lv_iload_n hx hb dX2_read_11 rfl (lv_at hl 1 rfl) ?_
      refine g_iald hx hb hE hP (by omega) h0 (i := i) (g_vpin h1 h7 hn) dX2_read_12 ?_
      refine lv_goto (tgt := 17) hx hb dX2_read_13 (by decide) ?_
      rw [← hQ]
      exact W.iret (v := F (i).toNatClampNeg) hx hb hr (fun t ht _ => g_fin (⟨by first | rw [rd_, if_pos h1] | rw [rd_, if_neg h1, if_pos h7] | rw [rd_, if_neg h1, if_neg h7], rfl⟩) hP hS ht) hS.2.2 dX2_read_17 hlocks

abbrev m_X2_write_rm : Room := { frames := 8, cells := 0, slots := 0, locals := 200 }
set_option maxHeartbeats 4000000 in
set_option maxRecDepth 100000 in
theorem m_X2_write (l : Launch) (D : va_G) (hAD : g_AD D) (σ : Nat → va_E) (q n : Nat) (F : Nat → Int32) (i x : Int32) (hq : q < 33) (hn : n < 2 ^ 31) (h0 : σ q = .inl (g_cI D, n, .inl F)) : g_M l D yX2_write cX2_write 3 none m_X2_write_rm [.ref (ad_ D q), .int i, .int x] σ (fun v1 σ1 => v1 = none ∧ σ1 q = .inl (g_cI D, n, .inl (wr_ F n i x)) ∧ ∀ k, k ≠ q → σ1 k = σ k) := by
  refine g_ofW [(0, .ref (ad_ D q)), (1, .int i), (2, .int x)] (by decide +kernel) (Nat.le_of_ble_eq_true rfl) rfl ?_
  intro p e s m args below meth c hx hb hr hml hown hlocks hts hE hZ hP hS hnm ls hl
  have hown : s.vm.findClass RX2 = some m.cls := hown
  generalize hQ : MQ _ _ _ _ _ _ _ = Q
  refine lv_iload_n hx hb dX2_write_0 rfl (lv_at hl 1 rfl) ?_
  refine lv_if_lt (tgt := 14) hx hb dX2_write_1 (by decide) (fun h1 => ?_) (fun h1 => ?_)
  · rw [← hQ]
    exact W.vret hx hb hr (fun t ht _ => g_fin (⟨rfl, by first | rw [wr_, if_pos h1]; exact h0 | rw [wr_, if_neg h1, if_pos h7]; exact h0, fun k hk => rfl⟩) hP hS ht) hS.2.2 dX2_write_14 hlocks
  · refine lv_iload_n hx hb dX2_write_4 rfl (lv_at hl 1 rfl) ?_
    refine lv_aload_n hx hb dX2_write_5 rfl (lv_at hl 0 rfl) ?_
    refine g_alen hx hb hE hP (by omega) h0 dX2_write_6 ?_
    refine lv_icmp_ge (tgt := 14) hx hb dX2_write_7 (by decide) (fun h7 => ?_) (fun h7 => ?_)
    · rw [← hQ]
      exact W.vret hx hb hr (fun t ht _ => g_fin (⟨rfl, by first | rw [wr_, if_pos h1]; exact h0 | rw [wr_, if_neg h1, if_pos h7]; exact h0, fun k hk => rfl⟩) hP hS ht) hS.2.2 dX2_write_14 hlocks
    · refine lv_aload_n hx hb dX2_write_10 rfl (lv_at hl 0 rfl) ?_
      refine lv_iload_n hx hb dX2_write_11 rfl (lv_at hl 1 rfl) ?_
      refine lv_iload_n hx hb dX2_write_12 rfl (lv_at hl 2 rfl) ?_
      refine g_iast (i := i) (x := x) hx hb hE hAD hP hS (by omega) h0 (g_vpin h1 h7 hn) dX2_write_13 (fun H locs hP hS => ?_)
      obtain ⟨σ_1, hσ2⟩ : ∃ z : Nat → va_E, z = va_up σ q (.inl (g_cI D, n, .inl (upd F (i).toNatClampNeg x))) := ⟨_, rfl⟩
      rw [show va_up σ q (.inl (g_cI D, n, .inl (upd F (i).toNatClampNeg x))) = σ_1 from hσ2.symm] at hP
      have hc3 : σ_1 q = .inl (g_cI D, n, .inl (upd F (i).toNatClampNeg x)) := by rw [hσ2]; exact g_ups
      rw [← hQ]
      exact W.vret hx hb hr (fun t ht _ => g_fin (⟨rfl, by rw [wr_, if_neg h1, if_neg h7]; exact hc3, fun k hk => by rw [hσ2]; simp [va_up, hk]⟩) hP hS ht) hS.2.2 dX2_write_14 hlocks

abbrev m_X2_hasBit_rm : Room := { frames := 8, cells := 0, slots := 0, locals := 200 }
set_option maxHeartbeats 4000000 in
set_option maxRecDepth 100000 in
theorem m_X2_hasBit (l : Launch) (D : va_G) (hAD : g_AD D) (σ : Nat → va_E) (x b : Int32)  : g_M l D yX2_hasBit cX2_hasBit 2 (some .boolean) m_X2_hasBit_rm [.int x, .int b] σ (fun v1 σ1 => v1 = some (.int (if hb_ x b then 1 else 0)) ∧ σ = σ1) := by
  refine g_ofW [(0, .int x), (1, .int b)] (by decide +kernel) (Nat.le_of_ble_eq_true rfl) rfl ?_
  intro p e s m args below meth c hx hb hr hml hown hlocks hts hE hZ hP hS hnm ls hl
  have hown : s.vm.findClass RX2 = some m.cls := hown
  generalize hQ : MQ _ _ _ _ _ _ _ = Q
  refine lv_iload_n hx hb dX2_hasBit_0 rfl (lv_at hl 0 rfl) ?_
  refine lv_iload_n hx hb dX2_hasBit_1 rfl (lv_at hl 1 rfl) ?_
  refine lv_ishr hx hb dX2_hasBit_2 ?_
  refine lv_iconst (v := nI 1) hx hb dX2_hasBit_3 (by decide) ?_
  refine lv_iand hx hb dX2_hasBit_4 ?_
  refine lv_iconst (v := nI 1) hx hb dX2_hasBit_5 (by decide) ?_
  refine lv_icmp_ne (tgt := 13) hx hb dX2_hasBit_6 (by decide) (fun h6 => ?_) (fun h6 => ?_)
  · refine lv_iconst (v := nI 0) hx hb dX2_hasBit_13 (by decide) ?_
    rw [← hQ]
    exact W.zret (v := nI 0) hx hb hr (by first | rfl | decide | (split <;> rfl)) (fun t ht _ => g_fin (⟨by first | (rw [show hb_ x b = true from decide_eq_true h6]; rfl) | (rw [show hb_ x b = false from decide_eq_false h6]; rfl), rfl⟩) hP hS ht) hS.2.2 dX2_hasBit_14 hlocks
  · refine lv_iconst (v := nI 1) hx hb dX2_hasBit_9 (by decide) ?_
    refine lv_goto (tgt := 14) hx hb dX2_hasBit_10 (by decide) ?_
    rw [← hQ]
    exact W.zret (v := nI 1) hx hb hr (by first | rfl | decide | (split <;> rfl)) (fun t ht _ => g_fin (⟨by first | (rw [show hb_ x b = true from decide_eq_true h6]; rfl) | (rw [show hb_ x b = false from decide_eq_false h6]; rfl), rfl⟩) hP hS ht) hS.2.2 dX2_hasBit_14 hlocks

abbrev m_X2_firstUnlikeBit_rm : Room := { frames := 8, cells := 0, slots := 0, locals := 200 }
set_option maxHeartbeats 4000000 in
set_option maxRecDepth 100000 in
theorem m_X2_firstUnlikeBit (l : Launch) (D : va_G) (hAD : g_AD D) (σ : Nat → va_E) (a b : Int32)  : g_M l D yX2_firstUnlikeBit cX2_firstUnlikeBit 5 (some .int) m_X2_firstUnlikeBit_rm [.int a, .int b] σ (fun v1 σ1 => v1 = some (.int (fub_ a b)) ∧ σ = σ1) := by
  refine g_ofW [(0, .int a), (1, .int b)] (by decide +kernel) (Nat.le_of_ble_eq_true rfl) rfl ?_
  intro p e s m args below meth c hx hb hr hml hown hlocks hts hE hZ hP hS hnm ls hl
  have hown : s.vm.findClass RX2 = some m.cls := hown
  generalize hQ : MQ _ _ _ _ _ _ _ = Q
  refine lv_iload_n hx hb dX2_firstUnlikeBit_0 rfl (lv_at hl 0 rfl) ?_
  refine lv_iload_n hx hb dX2_firstUnlikeBit_1 rfl (lv_at hl 1 rfl) ?_
  refine lv_ixor hx hb dX2_firstUnlikeBit_2 ?_
  refine lv_istore_n (lv' := [(2, .int (a ^^^ b)), (0, .int a), (1, .int b)]) hx hb dX2_firstUnlikeBit_3 rfl hl (by decide) rfl (fun ls hl => ?_)
  refine lv_iload_n hx hb dX2_firstUnlikeBit_4 rfl (lv_at hl 0 rfl) ?_
  refine lv_if_ne (tgt := 10) hx hb dX2_firstUnlikeBit_5 (by decide) (fun h5 => ?_) (fun h5 => ?_)
  · refine lv_iconst (v := nI 0) hx hb dX2_firstUnlikeBit_10 (by decide) ?_
    refine lv_istore_n (lv' := [(3, .int (nI 0)), (2, .int (a ^^^ b)), (0, .int a), (1, .int b)]) hx hb dX2_firstUnlikeBit_11 rfl hl (by decide) rfl (fun ls hl => ?_)
    refine lv_bipush (v := nI 8) hx hb dX2_firstUnlikeBit_12 (by decide) ?_
    refine lv_istore (lv' := [(4, .int (nI 8)), (3, .int (nI 0)), (2, .int (a ^^^ b)), (0, .int a), (1, .int b)]) hx hb dX2_firstUnlikeBit_14 hl (by decide) rfl (fun ls hl => ?_)
    have K16 : ∀ (fuel16 : Nat) (h c1 : Nat), (h) < fuel16 → (fo_ (a ^^^ b) c1 h = fo_ (a ^^^ b) 0 8 ∧ c1 + 2 * h ≤ 16) → ∀ (H : Heap) (locs : List Loc), va_P D vwCl (g_W D σ) H → va_S (g_A D s.heap.size) s.heap H locs → ∀ ls : Array Slot, lv_has ls 5 [(0, .int a), (1, .int b), (2, .int (a ^^^ b)), (3, .int (nI c1)), (4, .int (nI h))] → W p l e m_X2_firstUnlikeBit_rm s m args below meth c H locs 0 0 Q (F0 m 16 ls []) := by
      intro fuel16
      induction fuel16 with
      | zero => intro h c1 hf; exact absurd hf (Nat.not_lt_zero _)
      | succ fuel16 ih16 =>
        intro h c1 hf16 hI H locs hP hS ls hl
        refine lv_iload hx hb dX2_firstUnlikeBit_16 (lv_at hl 4 rfl) ?_
        refine lv_if_le (tgt := 44) hx hb dX2_firstUnlikeBit_18 (by decide) (fun h18 => ?_) (fun h18 => ?_)
        · have hb18 := g_le (a := h) (b := 0) h18 (by omega) (by omega)
          refine lv_iload_n hx hb dX2_firstUnlikeBit_44 rfl (lv_at hl 3 rfl) ?_
          rw [← hQ]
          exact W.iret (v := nI c1) hx hb hr (fun t ht _ => g_fin (⟨by rw [fub_, if_neg h5, ← hI.1, show h = 0 by omega, fo_0], rfl⟩) hP hS ht) hS.2.2 dX2_firstUnlikeBit_45 hlocks
        · have hb18 := g_nle (a := h) (b := 0) h18 (by omega) (by omega)
          refine lv_iload_n hx hb dX2_firstUnlikeBit_21 rfl (lv_at hl 2 rfl) ?_
          refine lv_iload_n hx hb dX2_firstUnlikeBit_22 rfl (lv_at hl 3 rfl) ?_
          refine lv_iload hx hb dX2_firstUnlikeBit_23 (lv_at hl 4 rfl) ?_
          refine lv_iadd hx hb dX2_firstUnlikeBit_25 ?_
          refine g_top (y := nI (c1 + h)) (nI_add c1 h) ?_
          refine lv_ishr hx hb dX2_firstUnlikeBit_26 ?_
          refine lv_if_eq (tgt := 35) hx hb dX2_firstUnlikeBit_27 (by decide) (fun h27 => ?_) (fun h27 => ?_)
          · have hB : fo_ (a ^^^ b) (fs_ (a ^^^ b) c1 h) (h / 2) = fo_ (a ^^^ b) 0 8 ∧ fs_ (a ^^^ b) c1 h + 2 * (h / 2) ≤ 16 := ⟨by rw [← hI.1]; exact (fo_s _ _ _ hb18).symm, by have := fs_le (a ^^^ b) c1 h; omega⟩
            rw [show fs_ (a ^^^ b) c1 h = c1 from if_pos h27] at hB
            refine lv_iload hx hb dX2_firstUnlikeBit_35 (lv_at hl 4 rfl) ?_
            refine lv_iconst (v := nI 1) hx hb dX2_firstUnlikeBit_37 (by decide) ?_
            refine lv_ishr hx hb dX2_firstUnlikeBit_38 ?_
            refine g_top (y := nI (h / 2)) (pk_shrN (by omega) _ 1 (by decide)) ?_
            refine lv_istore (lv' := [(4, .int (nI (h / 2))), (0, .int a), (1, .int b), (2, .int (a ^^^ b)), (3, .int (nI c1))]) hx hb dX2_firstUnlikeBit_39 hl (by decide) rfl (fun ls hl => ?_)
            refine lv_goto (tgt := 16) hx hb dX2_firstUnlikeBit_41 (by decide) ?_
            exact ih16 (h / 2) c1 (by omega) hB _ _ hP hS ls (lv_sub hl [1, 2, 3, 4, 0] rfl)
          · refine lv_iload_n hx hb dX2_firstUnlikeBit_30 rfl (lv_at hl 3 rfl) ?_
            refine lv_iload hx hb dX2_firstUnlikeBit_31 (lv_at hl 4 rfl) ?_
            refine lv_iadd hx hb dX2_firstUnlikeBit_33 ?_
            refine g_top (y := nI (c1 + h)) (nI_add c1 h) ?_
            refine lv_istore_n (lv' := [(3, .int (nI (c1 + h))), (0, .int a), (1, .int b), (2, .int (a ^^^ b)), (4, .int (nI h))]) hx hb dX2_firstUnlikeBit_34 rfl hl (by decide) rfl (fun ls hl => ?_)
            have hB : fo_ (a ^^^ b) (fs_ (a ^^^ b) c1 h) (h / 2) = fo_ (a ^^^ b) 0 8 ∧ fs_ (a ^^^ b) c1 h + 2 * (h / 2) ≤ 16 := ⟨by rw [← hI.1]; exact (fo_s _ _ _ hb18).symm, by have := fs_le (a ^^^ b) c1 h; omega⟩
            rw [show fs_ (a ^^^ b) c1 h = c1 + h from if_neg h27] at hB
            refine lv_iload hx hb dX2_firstUnlikeBit_35 (lv_at hl 4 rfl) ?_
            refine lv_iconst (v := nI 1) hx hb dX2_firstUnlikeBit_37 (by decide) ?_
            refine lv_ishr hx hb dX2_firstUnlikeBit_38 ?_
            refine g_top (y := nI (h / 2)) (pk_shrN (by omega) _ 1 (by decide)) ?_
            refine lv_istore (lv' := [(4, .int (nI (h / 2))), (3, .int (nI (c1 + h))), (0, .int a), (1, .int b), (2, .int (a ^^^ b))]) hx hb dX2_firstUnlikeBit_39 hl (by decide) rfl (fun ls hl => ?_)
            refine lv_goto (tgt := 16) hx hb dX2_firstUnlikeBit_41 (by decide) ?_
            exact ih16 (h / 2) (c1 + h) (by omega) hB _ _ hP hS ls (lv_sub hl [2, 3, 4, 1, 0] rfl)
    exact K16 ((8) + 1) 8 0 (Nat.lt_succ_self _) (⟨rfl, by decide⟩) _ _ hP hS ls (lv_sub hl [3, 4, 2, 1, 0] rfl)
  · refine lv_iconst (v := (-1)) hx hb dX2_firstUnlikeBit_8 (by decide) ?_
    rw [← hQ]
    exact W.iret (v := (-1)) hx hb hr (fun t ht _ => g_fin (⟨by rw [fub_, if_pos h5], rfl⟩) hP hS ht) hS.2.2 dX2_firstUnlikeBit_9 hlocks
end
section
/-! PURE: what Villages' methods do to the rows -/
theorem g_dec {i : Nat} (h : 0 < i) : nI i + Int32.ofInt (-1) = nI (i - 1) := by
  obtain ⟨n, rfl⟩ : ∃ n, i = n + 1 := ⟨i - 1, by omega⟩
  exact pk_m1 n
theorem g_off.one {lo hi q : Nat} {σ σ' σ2 : Nat → va_E} (h : g_off lo hi σ σ') (hf : ∀ k, k ≠ q → σ2 k = σ' k) (h1 : lo ≤ q) (h2 : q ≤ hi) : g_off lo hi σ σ2 := fun k hk => (hf k (by omega)).trans (h k hk)
def g_VF (D : va_G) (σ : Nat → va_E) (v : Nat) (L : g_L) (F G : Nat → Int32) : Prop := σ v = .inr (1, [.ref (ad_ D (v + 1)), .ref (ad_ D (v + 2)), .int (nI L.length)]) ∧ σ (v + 1) = .inl (g_cI D, 48, .inl F) ∧ σ (v + 2) = .inl (g_cI D, 48, .inl G) ∧ (∀ j, j < L.length → F j = fn_ L j ∧ G j = gn_ L j) ∧ L.length ≤ 48 ∧ v + 2 < 33
theorem g_VF.V {D : va_G} {σ : Nat → va_E} {v : Nat} {L : g_L} {F G : Nat → Int32} (h : g_VF D σ v L F G) : g_V D σ v L := ⟨F, G, h⟩
theorem g_VF.off {D : va_G} {σ σ' : Nat → va_E} {v lo hi : Nat} {L : g_L} {F G : Nat → Int32} (h : g_VF D σ v L F G) (ho : g_off lo hi σ σ') (hd : v + 2 < lo ∨ hi < v) : g_VF D σ' v L F G := by
  obtain ⟨h0, h1, h2, h3⟩ := h
  exact ⟨by rw [ho v (by omega)]; exact h0, by rw [ho (v + 1) (by omega)]; exact h1, by rw [ho (v + 2) (by omega)]; exact h2, h3⟩
def sh_ (F : Nat → Int32) (k n : Nat) : Nat → Int32 := fun q => if k < q ∧ q ≤ n then F (q - 1) else F q
theorem sh_0 {F : Nat → Int32} {n : Nat} : sh_ F n n = F := by
  funext q
  rw [sh_, if_neg (by omega)]
theorem sh_lo {F : Nat → Int32} {k n i : Nat} (h : i ≤ k) : sh_ F k n i = F i := by rw [sh_, if_neg (by omega)]
theorem sh_hi {F : Nat → Int32} {k n i : Nat} (h : n < i) : sh_ F k n i = F i := by rw [sh_, if_neg (by omega)]
theorem sh_in {F : Nat → Int32} {k n i : Nat} (h : k < i) (h2 : i ≤ n) : sh_ F k n i = F (i - 1) := by rw [sh_, if_pos ⟨h, h2⟩]
theorem sh_step {F : Nat → Int32} {j n : Nat} (h : 0 < j) (h2 : j ≤ n) : upd (sh_ F j n) j (F (j - 1)) = sh_ F (j - 1) n := by
  funext q
  by_cases e : q = j
  · subst e; simp only [upd, if_true]; rw [sh_in (by omega) h2]
  · simp only [upd, e, if_false, sh_]
    by_cases h3 : j < q ∧ q ≤ n
    · rw [if_pos h3, if_pos (by omega)]
    · rw [if_neg h3, if_neg (by omega)]
def rm_ (F : Nat → Int32) (a b : Nat) : Nat → Int32 := fun q => if a ≤ q ∧ q < b then F (q + 1) else F q
theorem rm_0 {F : Nat → Int32} {a : Nat} : rm_ F a a = F := by
  funext q
  rw [rm_, if_neg (by omega)]
theorem rm_at {F : Nat → Int32} {a b i : Nat} (h : b ≤ i) : rm_ F a b i = F i := by rw [rm_, if_neg (by omega)]
theorem rm_step {F : Nat → Int32} {a b : Nat} (h : a ≤ b) : upd (rm_ F a b) b (F (b + 1)) = rm_ F a (b + 1) := by
  funext q
  by_cases e : q = b
  · subst e; simp only [upd, if_true, rm_]; rw [if_pos (by omega)]
  · simp only [upd, e, if_false, rm_]
    by_cases h3 : a ≤ q ∧ q < b
    · rw [if_pos h3, if_pos (by omega)]
    · rw [if_neg h3, if_neg (by omega)]
theorem st_len {L : g_L} {x y : Int32} : (st_ L x y).length = if fn_ L (rk_ L x) = x then L.length else L.length + 1 := by
  unfold st_
  have := rk_le L x
  split
  · simp
  · simp; omega
theorem st_len_le {L : g_L} {x y : Int32} : (st_ L x y).length ≤ L.length + 1 := by rw [st_len]; split <;> omega
theorem getD_ins {L : g_L} {k j : Nat} {p d : Int32 × Int32} (h : k ≤ L.length) : (L.take k ++ p :: L.drop k).getD j d = if j < k then L.getD j d else if j = k then p else L.getD (j - 1) d := by
  simp only [List.getD_eq_getElem?_getD]
  by_cases h1 : j < k
  · rw [if_pos h1, List.getElem?_append_left (by simp; omega), List.getElem?_take_of_lt h1]
  · rw [if_neg h1, List.getElem?_append_right (by simp; omega)]
    have e : (L.take k).length = k := by simp; omega
    rw [e]
    by_cases h2 : j = k
    · subst h2; simp
    · rw [if_neg h2]
      obtain ⟨i, hi⟩ : ∃ i, j - k = i + 1 := ⟨j - k - 1, by omega⟩
      rw [hi, List.getElem?_cons_succ, List.getElem?_drop]
      congr 2
      omega
theorem fn_ins {L : g_L} {k j : Nat} {x y : Int32} (h : k ≤ L.length) : fn_ (L.take k ++ (x, y) :: L.drop k) j = if j < k then fn_ L j else if j = k then x else fn_ L (j - 1) := by
  unfold fn_; rw [getD_ins h]; split
  · rfl
  · split <;> rfl
theorem gn_ins {L : g_L} {k j : Nat} {x y : Int32} (h : k ≤ L.length) : gn_ (L.take k ++ (x, y) :: L.drop k) j = if j < k then gn_ L j else if j = k then y else gn_ L (j - 1) := by
  unfold gn_; rw [getD_ins h]; split
  · rfl
  · split <;> rfl
theorem getD_set {L : g_L} {k j : Nat} {p d : Int32 × Int32} (h : k < L.length) : (L.set k p).getD j d = if j = k then p else L.getD j d := by
  simp only [List.getD_eq_getElem?_getD]
  by_cases e : j = k
  · subst e; simp [h]
  · rw [if_neg e, List.getElem?_set_ne (Ne.symm e)]
theorem fn_set {L : g_L} {k j : Nat} {x y : Int32} (h : k < L.length) : fn_ (L.set k (x, y)) j = if j = k then x else fn_ L j := by
  unfold fn_; rw [getD_set h]; split <;> rfl
theorem gn_set {L : g_L} {k j : Nat} {x y : Int32} (h : k < L.length) : gn_ (L.set k (x, y)) j = if j = k then y else gn_ L j := by
  unfold gn_; rw [getD_set h]; split <;> rfl
theorem fn_in {L : g_L} {j : Nat} {x : Int32} (h : fn_ L j = x) (hx : x ≠ -1) : j < L.length := by
  rcases Nat.lt_or_ge j L.length with q | q
  · exact q
  · exact absurd ((fn_out q).symm.trans h).symm hx
theorem getD_erase {L : g_L} {k j : Nat} {d : Int32 × Int32} : (L.eraseIdx k).getD j d = if j < k then L.getD j d else L.getD (j + 1) d := by
  simp only [List.getD_eq_getElem?_getD, List.getElem?_eraseIdx]
  split <;> rfl
theorem fn_erase {L : g_L} {k j : Nat} : fn_ (L.eraseIdx k) j = if j < k then fn_ L j else fn_ L (j + 1) := by
  unfold fn_; rw [getD_erase]; split <;> rfl
theorem gn_erase {L : g_L} {k j : Nat} : gn_ (L.eraseIdx k) j = if j < k then gn_ L j else gn_ L (j + 1) := by
  unfold gn_; rw [getD_erase]; split <;> rfl
theorem fn_take {L : g_L} {k j : Nat} (h : j < k) : fn_ (L.take k) j = fn_ L j := by
  unfold fn_; simp only [List.getD_eq_getElem?_getD, List.getElem?_take_of_lt h]
theorem gn_take {L : g_L} {k j : Nat} (h : j < k) : gn_ (L.take k) j = gn_ L j := by
  unfold gn_; simp only [List.getD_eq_getElem?_getD, List.getElem?_take_of_lt h]
/-- behind a removal -/
theorem rep_erase {L : g_L} {F G : Nat → Int32} {a : Nat} (ha : a < L.length) (h : ∀ j, j < L.length → F j = fn_ L j ∧ G j = gn_ L j) : ∀ j, j < (L.eraseIdx a).length → rm_ F a (L.length - 1) j = fn_ (L.eraseIdx a) j ∧ rm_ G a (L.length - 1) j = gn_ (L.eraseIdx a) j := by
  intro j hj
  rw [List.length_eraseIdx_of_lt ha] at hj
  rw [fn_erase, gn_erase]
  unfold rm_
  by_cases e : j < a
  · have e2 : ¬ (a ≤ j ∧ j < L.length - 1) := by omega
    rw [if_neg e2, if_neg e2, if_pos e, if_pos e]; exact h j (by omega)
  · have e2 : a ≤ j ∧ j < L.length - 1 := by omega
    rw [if_pos e2, if_pos e2, if_neg e, if_neg e]; exact h (j + 1) (by omega)
theorem rep_set {L : g_L} {F G : Nat → Int32} {x y : Int32} (hx : x ≠ -1) (hf : fn_ L (rk_ L x) = x) (h : ∀ j, j < L.length → F j = fn_ L j ∧ G j = gn_ L j) : ∀ j, j < (st_ L x y).length → upd F (rk_ L x) x j = fn_ (st_ L x y) j ∧ upd G (rk_ L x) y j = gn_ (st_ L x y) j := by
  have hk := fn_in hf hx
  intro j hj
  rw [st_len, if_pos hf] at hj
  unfold st_
  rw [if_pos hf, fn_set hk, gn_set hk]
  unfold upd
  by_cases e : j = rk_ L x
  · rw [if_pos e, if_pos e, if_pos e, if_pos e]; exact ⟨rfl, rfl⟩
  · rw [if_neg e, if_neg e, if_neg e, if_neg e]; exact h j hj
theorem rep_ins {L : g_L} {F G : Nat → Int32} {x y : Int32} (hf : ¬ fn_ L (rk_ L x) = x) (h : ∀ j, j < L.length → F j = fn_ L j ∧ G j = gn_ L j) : ∀ j, j < (st_ L x y).length → upd (sh_ F (rk_ L x) L.length) (rk_ L x) x j = fn_ (st_ L x y) j ∧ upd (sh_ G (rk_ L x) L.length) (rk_ L x) y j = gn_ (st_ L x y) j := by
  have hk := rk_le L x
  intro j hj
  rw [st_len, if_neg hf] at hj
  unfold st_
  rw [if_neg hf, fn_ins hk, gn_ins hk]
  unfold upd sh_
  by_cases e1 : j < rk_ L x
  · have e2 : ¬ j = rk_ L x := by omega
    have e3 : ¬ (rk_ L x < j ∧ j ≤ L.length) := by omega
    simp only [if_neg e2, if_neg e3, if_pos e1]; exact h j (by omega)
  · by_cases e : j = rk_ L x
    · simp only [if_pos e, if_neg e1]; exact ⟨trivial, trivial⟩
    · have e3 : rk_ L x < j ∧ j ≤ L.length := by omega
      simp only [if_neg e, if_pos e3, if_neg e1]; exact h (j - 1) (by omega)
theorem rep_take {L : g_L} {F G : Nat → Int32} {k : Nat} (h : ∀ j, j < L.length → F j = fn_ L j ∧ G j = gn_ L j) : ∀ j, j < (L.take k).length → F j = fn_ (L.take k) j ∧ G j = gn_ (L.take k) j := by
  intro j hj
  rw [List.length_take] at hj
  rw [fn_take (by omega), gn_take (by omega)]
  exact h j (by omega)
/-! folds -/
def cm_ (L M : g_L) : Nat → Nat
  | 0 => 0
  | k + 1 => cm_ L M k + if mo_ M (fn_ L k) = -1 then 0 else 1
def sm_ (L : g_L) (a : Nat) : Nat → Int32
  | 0 => 0
  | c + 1 => sm_ L a c + gn_ L (a + c)
def im_ (x y : Int32) : Int32 := if x < y then y else x
def mm_ (L : g_L) (a : Nat) : Nat → Int32
  | 0 => -1
  | c + 1 => im_ (mm_ L a c) (gn_ L (a + c))
def ne_ (L : g_L) (x : Int32) : Nat → Int32
  | 0 => -1
  | c + 1 => if ne_ L x c = -1 ∨ fn_ L c ^^^ x < ne_ L x c ^^^ x then fn_ L c else ne_ L x c
def fi_ (L : g_L) (k : Nat) (m : Int32) : Nat → Int32
  | 0 => m
  | c + 1 => im_ (fi_ L k m c) (fn_ L k ^^^ fn_ L (k + 1 + c))
def fa_ (L : g_L) : Nat → Int32
  | 0 => -1
  | c + 1 => fi_ L c (fa_ L c) (L.length - (c + 1))
def sa_ (L M : g_L) : Nat → g_L
  | 0 => L
  | k + 1 => st_ (sa_ L M k) (fn_ M k) (gn_ M k)
/-- the names turned by the bits b -/
def cb_ (L : g_L) (b : Int32) : Nat → g_L
  | 0 => []
  | k + 1 => st_ (cb_ L b k) (fn_ L k ^^^ b) (gn_ L k)
theorem sa_len (L M : g_L) : ∀ k, (sa_ L M k).length ≤ L.length + k
  | 0 => Nat.le_refl _
  | k + 1 => Nat.le_trans st_len_le (Nat.succ_le_succ (sa_len L M k))
theorem cb_len (L : g_L) (b : Int32) : ∀ k, (cb_ L b k).length ≤ k
  | 0 => Nat.le_refl _
  | k + 1 => Nat.le_trans st_len_le (Nat.succ_le_succ (cb_len L b k))
theorem cm_le (L M : g_L) : ∀ k, cm_ L M k ≤ k
  | 0 => Nat.le_refl _
  | k + 1 => by have := cm_le L M k; rw [cm_]; split <;> omega
end
section
abbrev m_X1_size_rm : Room := { frames := 8, cells := 0, slots := 0, locals := 200 }
set_option maxHeartbeats 4000000 in
set_option maxRecDepth 100000 in
theorem m_X1_size (l : Launch) (D : va_G) (hAD : g_AD D) (σ : Nat → va_E) (v : Nat) (L : g_L) (F G : Nat → Int32) (hV : g_VF D σ v L F G)   : g_M l D yX1_size cX1_size 1 (some .int) m_X1_size_rm [.ref (ad_ D v)] σ (fun v1 σ1 => v1 = some (.int (nI L.length)) ∧ σ = σ1) := by
  refine g_ofW [(0, .ref (ad_ D v))] (by decide +kernel) (Nat.le_of_ble_eq_true rfl) rfl ?_
  intro p e s m args below meth c hx hb hr hml hown hlocks hts hE hZ hP hS hnm ls hl
  have hown : s.vm.findClass RX1 = some m.cls := hown
  generalize hQ : MQ _ _ _ _ _ _ _ = Q
  obtain ⟨h0, h1, h2, hFG, hLn, hvv⟩ := id hV
  refine lv_aload_n hx hb dX1_size_0 rfl (lv_at hl 0 rfl) ?_
  refine g_get hx hb hts hE hown hP g_inX1 rfl (by omega) h0 2 (by decide) rfl wf_X1_18 (v := .int (nI L.length)) rfl dX1_size_1 ?_
  rw [← hQ]
  exact W.iret (v := nI L.length) hx hb hr (fun t ht _ => g_fin (⟨rfl, rfl⟩) hP hS ht) hS.2.2 dX1_size_4 hlocks

abbrev m_X1_nameAt_rm : Room := { frames := 9, cells := 0, slots := 0, locals := 221 }
set_option maxHeartbeats 4000000 in
set_option maxRecDepth 100000 in
theorem m_X1_nameAt (l : Launch) (D : va_G) (hAD : g_AD D) (σ : Nat → va_E) (v : Nat) (L : g_L) (F G : Nat → Int32) (hV : g_VF D σ v L F G) (k : Int32)  : g_M l D yX1_nameAt cX1_nameAt 2 (some .int) m_X1_nameAt_rm [.ref (ad_ D v), .int k] σ (fun v1 σ1 => v1 = some (.int (na_ L k)) ∧ σ = σ1) := by
  refine g_ofW [(0, .ref (ad_ D v)), (1, .int k)] (by decide +kernel) (Nat.le_of_ble_eq_true rfl) rfl ?_
  intro p e s m args below meth c hx hb hr hml hown hlocks hts hE hZ hP hS hnm ls hl
  have hown : s.vm.findClass RX1 = some m.cls := hown
  generalize hQ : MQ _ _ _ _ _ _ _ = Q
  obtain ⟨h0, h1, h2, hFG, hLn, hvv⟩ := id hV
  refine lv_iload_n hx hb dX1_nameAt_0 rfl (lv_at hl 1 rfl) ?_
  refine lv_aload_n hx hb dX1_nameAt_1 rfl (lv_at hl 0 rfl) ?_
  refine g_get hx hb hts hE hown hP g_inX1 rfl (by omega) h0 2 (by decide) rfl wf_X1_18 (v := .int (nI L.length)) rfl dX1_nameAt_2 ?_
  refine lv_icmp_ge (tgt := 19) hx hb dX1_nameAt_5 (by decide) (fun h5 => ?_) (fun h5 => ?_)
  · refine lv_iconst (v := (-1)) hx hb dX1_nameAt_19 (by decide) ?_
    rw [← hQ]
    exact W.iret (v := (-1)) hx hb hr (fun t ht _ => g_fin (⟨by first | rw [na_out h5 (by omega)] | rw [na_rd h5 hLn (fun j hj => (hFG j hj).1)], rfl⟩) hP hS ht) hS.2.2 dX1_nameAt_20 hlocks
  · refine lv_aload_n hx hb dX1_nameAt_8 rfl (lv_at hl 0 rfl) ?_
    refine g_get hx hb hts hE hown hP g_inX1 rfl (by omega) h0 0 (by decide) rfl wf_X1_9 (v := .ref (ad_ D (v + 1))) rfl dX1_nameAt_9 ?_
    refine lv_iload_n hx hb dX1_nameAt_12 rfl (lv_at hl 1 rfl) ?_
    refine g_callN0 (y := yX2_read) (n := 2) (As := [.ref (ad_ D (v + 1)), .int k]) (rest := []) hx hb hml hown hts hE hZ hP hS hl.1 (m_X2_read l D hAD σ (v + 1) 48 (F) (k) (by omega) (by decide) h1) k_X1_22 rfl rfl ⟨rfl, rfl⟩ ⟨Nat.le_of_ble_eq_true rfl, Nat.le_of_ble_eq_true rfl⟩ (Nat.le_of_ble_eq_true rfl) ⟨Nat.le_of_ble_eq_true rfl, Nat.le_of_ble_eq_true rfl⟩ dX1_nameAt_13 (fun v1 σ_2 H locs hq hP hS => ?_)
    obtain ⟨rfl, rfl⟩ := hq
    refine W.eq (g2 := F0 m 16 ls [.int (rd_ (F) 48 (k))]) rfl ?_
    refine lv_goto (tgt := 20) hx hb dX1_nameAt_16 (by decide) ?_
    rw [← hQ]
    exact W.iret (v := rd_ (F) 48 (k)) hx hb hr (fun t ht _ => g_fin (⟨by first | rw [na_out h5 (by omega)] | rw [na_rd h5 hLn (fun j hj => (hFG j hj).1)], rfl⟩) hP hS ht) hS.2.2 dX1_nameAt_20 hlocks

theorem m_X1_nameAtN (l : Launch) (D : va_G) (hAD : g_AD D) (σ : Nat → va_E) (v : Nat) (L : g_L) (F G : Nat → Int32) (hV : g_VF D σ v L F G) (j : Nat) (hj : j < 2 ^ 31) : g_M l D yX1_nameAt cX1_nameAt 2 (some .int) m_X1_nameAt_rm [.ref (ad_ D v), .int (nI j)] σ (fun v1 σ1 => v1 = some (.int (fn_ L j)) ∧ σ = σ1) := by
  have h := m_X1_nameAt l D hAD σ v L F G hV (nI j)
  rw [na_n hj] at h
  exact h

abbrev m_X1_milesAt_rm : Room := { frames := 9, cells := 0, slots := 0, locals := 221 }
set_option maxHeartbeats 4000000 in
set_option maxRecDepth 100000 in
theorem m_X1_milesAt (l : Launch) (D : va_G) (hAD : g_AD D) (σ : Nat → va_E) (v : Nat) (L : g_L) (F G : Nat → Int32) (hV : g_VF D σ v L F G) (k : Int32)  : g_M l D yX1_milesAt cX1_milesAt 2 (some .int) m_X1_milesAt_rm [.ref (ad_ D v), .int k] σ (fun v1 σ1 => v1 = some (.int (ma_ L k)) ∧ σ = σ1) := by
  refine g_ofW [(0, .ref (ad_ D v)), (1, .int k)] (by decide +kernel) (Nat.le_of_ble_eq_true rfl) rfl ?_
  intro p e s m args below meth c hx hb hr hml hown hlocks hts hE hZ hP hS hnm ls hl
  have hown : s.vm.findClass RX1 = some m.cls := hown
  generalize hQ : MQ _ _ _ _ _ _ _ = Q
  obtain ⟨h0, h1, h2, hFG, hLn, hvv⟩ := id hV
  refine lv_iload_n hx hb dX1_milesAt_0 rfl (lv_at hl 1 rfl) ?_
  refine lv_aload_n hx hb dX1_milesAt_1 rfl (lv_at hl 0 rfl) ?_
  refine g_get hx hb hts hE hown hP g_inX1 rfl (by omega) h0 2 (by decide) rfl wf_X1_18 (v := .int (nI L.length)) rfl dX1_milesAt_2 ?_
  refine lv_icmp_ge (tgt := 19) hx hb dX1_milesAt_5 (by decide) (fun h5 => ?_) (fun h5 => ?_)
  · refine lv_iconst (v := (-1)) hx hb dX1_milesAt_19 (by decide) ?_
    rw [← hQ]
    exact W.iret (v := (-1)) hx hb hr (fun t ht _ => g_fin (⟨by first | rw [ma_out h5 (by omega)] | rw [ma_rd h5 hLn (fun j hj => (hFG j hj).2)], rfl⟩) hP hS ht) hS.2.2 dX1_milesAt_20 hlocks
  · refine lv_aload_n hx hb dX1_milesAt_8 rfl (lv_at hl 0 rfl) ?_
    refine g_get hx hb hts hE hown hP g_inX1 rfl (by omega) h0 1 (by decide) rfl wf_X1_15 (v := .ref (ad_ D (v + 2))) rfl dX1_milesAt_9 ?_
    refine lv_iload_n hx hb dX1_milesAt_12 rfl (lv_at hl 1 rfl) ?_
    refine g_callN0 (y := yX2_read) (n := 2) (As := [.ref (ad_ D (v + 2)), .int k]) (rest := []) hx hb hml hown hts hE hZ hP hS hl.1 (m_X2_read l D hAD σ (v + 2) 48 (G) (k) (by omega) (by decide) h2) k_X1_22 rfl rfl ⟨rfl, rfl⟩ ⟨Nat.le_of_ble_eq_true rfl, Nat.le_of_ble_eq_true rfl⟩ (Nat.le_of_ble_eq_true rfl) ⟨Nat.le_of_ble_eq_true rfl, Nat.le_of_ble_eq_true rfl⟩ dX1_milesAt_13 (fun v1 σ_2 H locs hq hP hS => ?_)
    obtain ⟨rfl, rfl⟩ := hq
    refine W.eq (g2 := F0 m 16 ls [.int (rd_ (G) 48 (k))]) rfl ?_
    refine lv_goto (tgt := 20) hx hb dX1_milesAt_16 (by decide) ?_
    rw [← hQ]
    exact W.iret (v := rd_ (G) 48 (k)) hx hb hr (fun t ht _ => g_fin (⟨by first | rw [ma_out h5 (by omega)] | rw [ma_rd h5 hLn (fun j hj => (hFG j hj).2)], rfl⟩) hP hS ht) hS.2.2 dX1_milesAt_20 hlocks

theorem m_X1_milesAtN (l : Launch) (D : va_G) (hAD : g_AD D) (σ : Nat → va_E) (v : Nat) (L : g_L) (F G : Nat → Int32) (hV : g_VF D σ v L F G) (j : Nat) (hj : j < 2 ^ 31) : g_M l D yX1_milesAt cX1_milesAt 2 (some .int) m_X1_milesAt_rm [.ref (ad_ D v), .int (nI j)] σ (fun v1 σ1 => v1 = some (.int (gn_ L j)) ∧ σ = σ1) := by
  have h := m_X1_milesAt l D hAD σ v L F G hV (nI j)
  rw [ma_n hj] at h
  exact h

abbrev m_X1_smallerThan_rm : Room := { frames := 9, cells := 0, slots := 0, locals := 221 }
set_option maxHeartbeats 4000000 in
set_option maxRecDepth 100000 in
theorem m_X1_smallerThan (l : Launch) (D : va_G) (hAD : g_AD D) (σ : Nat → va_E) (v : Nat) (L : g_L) (F G : Nat → Int32) (hV : g_VF D σ v L F G) (x : Int32)  : g_M l D yX1_smallerThan cX1_smallerThan 3 (some .int) m_X1_smallerThan_rm [.ref (ad_ D v), .int x] σ (fun v1 σ1 => v1 = some (.int (nI (rk_ L x))) ∧ σ = σ1) := by
  refine g_ofW [(0, .ref (ad_ D v)), (1, .int x)] (by decide +kernel) (Nat.le_of_ble_eq_true rfl) rfl ?_
  intro p e s m args below meth c hx hb hr hml hown hlocks hts hE hZ hP hS hnm ls hl
  have hown : s.vm.findClass RX1 = some m.cls := hown
  generalize hQ : MQ _ _ _ _ _ _ _ = Q
  obtain ⟨h0, h1, h2, hFG, hLn, hvv⟩ := id hV
  refine lv_iconst (v := nI 0) hx hb dX1_smallerThan_0 (by decide) ?_
  refine lv_istore_n (lv' := [(2, .int (nI 0)), (0, .ref (ad_ D v)), (1, .int x)]) hx hb dX1_smallerThan_1 rfl hl (by decide) rfl (fun ls hl => ?_)
  have K2 : ∀ (fuel2 : Nat) (i : Nat), (L.length - i) < fuel2 → (i ≤ L.length) → (∀ j, j < i → fn_ L j < x) → ∀ (H : Heap) (locs : List Loc), va_P D vwCl (g_W D σ) H → va_S (g_A D s.heap.size) s.heap H locs → ∀ ls : Array Slot, lv_has ls 3 [(2, .int (nI i)), (0, .ref (ad_ D v)), (1, .int x)] → W p l e m_X1_smallerThan_rm s m args below meth c H locs 0 0 Q (F0 m 2 ls []) := by
    intro fuel2
    induction fuel2 with
    | zero => intro i hf; exact absurd hf (Nat.not_lt_zero _)
    | succ fuel2 ih2 =>
      intro i hf2 hi hlt H locs hP hS ls hl
      refine lv_iload_n hx hb dX1_smallerThan_2 rfl (lv_at hl 0 rfl) ?_
      refine lv_aload_n hx hb dX1_smallerThan_3 rfl (lv_at hl 1 rfl) ?_
      refine g_get hx hb hts hE hown hP g_inX1 rfl (by omega) h0 2 (by decide) rfl wf_X1_18 (v := .int (nI L.length)) rfl dX1_smallerThan_4 ?_
      refine lv_icmp_ge (tgt := 28) hx hb dX1_smallerThan_7 (by decide) (fun h7 => ?_) (fun h7 => ?_)
      · have hb7 := g_le (a := L.length) (b := i) h7 (by omega) (by omega)
        refine lv_iload_n hx hb dX1_smallerThan_28 rfl (lv_at hl 0 rfl) ?_
        rw [← hQ]
        exact W.iret (v := nI i) hx hb hr (fun t ht _ => g_fin (⟨by first | rw [rk_eq hi hlt (fun h => by omega)] | rw [rk_eq hi hlt (fun _ => Int32.not_lt.mpr h19)], rfl⟩) hP hS ht) hS.2.2 dX1_smallerThan_29 hlocks
      · have hb7 := g_nle (a := L.length) (b := i) h7 (by omega) (by omega)
        refine lv_aload_n hx hb dX1_smallerThan_10 rfl (lv_at hl 1 rfl) ?_
        refine g_get hx hb hts hE hown hP g_inX1 rfl (by omega) h0 0 (by decide) rfl wf_X1_9 (v := .ref (ad_ D (v + 1))) rfl dX1_smallerThan_11 ?_
        refine lv_iload_n hx hb dX1_smallerThan_14 rfl (lv_at hl 0 rfl) ?_
        refine g_callN0 (y := yX2_read) (n := 2) (As := [.ref (ad_ D (v + 1)), .int (nI i)]) (rest := []) hx hb hml hown hts hE hZ hP hS hl.1 (m_X2_read l D hAD σ (v + 1) 48 (F) (nI i) (by omega) (by decide) h1) k_X1_22 rfl rfl ⟨rfl, rfl⟩ ⟨Nat.le_of_ble_eq_true rfl, Nat.le_of_ble_eq_true rfl⟩ (Nat.le_of_ble_eq_true rfl) ⟨Nat.le_of_ble_eq_true rfl, Nat.le_of_ble_eq_true rfl⟩ dX1_smallerThan_15 (fun v1 σ_2 H locs hq hP hS => ?_)
        obtain ⟨rfl, rfl⟩ := hq
        refine W.eq (g2 := F0 m 18 ls [.int (rd_ (F) 48 (nI i))]) rfl ?_
        refine g_top (y := fn_ L i) ((rd_in (by omega) (by decide)).trans (hFG i (by omega)).1) ?_
        refine lv_iload_n hx hb dX1_smallerThan_18 rfl (lv_at hl 2 rfl) ?_
        refine lv_icmp_ge (tgt := 28) hx hb dX1_smallerThan_19 (by decide) (fun h19 => ?_) (fun h19 => ?_)
        · refine lv_iload_n hx hb dX1_smallerThan_28 rfl (lv_at hl 0 rfl) ?_
          rw [← hQ]
          exact W.iret (v := nI i) hx hb hr (fun t ht _ => g_fin (⟨by first | rw [rk_eq hi hlt (fun h => by omega)] | rw [rk_eq hi hlt (fun _ => Int32.not_lt.mpr h19)], rfl⟩) hP hS ht) hS.2.2 dX1_smallerThan_29 hlocks
        · refine lv_iinc (v := nI (i + 1)) (lv' := [(2, .int (nI (i + 1))), (0, .ref (ad_ D v)), (1, .int x)]) hx hb dX1_smallerThan_22 hl (k := 0) rfl (g_inc i) (by decide) rfl (fun ls hl => ?_)
          refine lv_goto (tgt := 2) hx hb dX1_smallerThan_25 (by decide) ?_
          exact ih2 (i + 1) (by omega) (by omega) (fun j hj => by rcases Nat.lt_succ_iff_lt_or_eq.mp hj with q | q; exact hlt j q; rw [q]; exact Int32.not_le.mp h19) _ _ hP hS ls (lv_sub hl [0, 1, 2] rfl)
  exact K2 ((L.length - 0) + 1) 0 (Nat.lt_succ_self _) (Nat.zero_le _) (fun j hj => absurd hj (Nat.not_lt_zero j)) _ _ hP hS ls (lv_sub hl [0, 1, 2] rfl)

abbrev m_X1_milesOf_rm : Room := { frames := 10, cells := 0, slots := 0, locals := 243 }
set_option maxHeartbeats 4000000 in
set_option maxRecDepth 100000 in
theorem m_X1_milesOf (l : Launch) (D : va_G) (hAD : g_AD D) (σ : Nat → va_E) (v : Nat) (L : g_L) (F G : Nat → Int32) (hV : g_VF D σ v L F G) (x : Int32)  : g_M l D yX1_milesOf cX1_milesOf 3 (some .int) m_X1_milesOf_rm [.ref (ad_ D v), .int x] σ (fun v1 σ1 => v1 = some (.int (mo_ L x)) ∧ σ = σ1) := by
  refine g_ofW [(0, .ref (ad_ D v)), (1, .int x)] (by decide +kernel) (Nat.le_of_ble_eq_true rfl) rfl ?_
  intro p e s m args below meth c hx hb hr hml hown hlocks hts hE hZ hP hS hnm ls hl
  have hown : s.vm.findClass RX1 = some m.cls := hown
  generalize hQ : MQ _ _ _ _ _ _ _ = Q
  obtain ⟨h0, h1, h2, hFG, hLn, hvv⟩ := id hV
  have hrk := rk_le L x
  refine lv_aload_n hx hb dX1_milesOf_0 rfl (lv_at hl 0 rfl) ?_
  refine lv_iload_n hx hb dX1_milesOf_1 rfl (lv_at hl 1 rfl) ?_
  refine g_callV0 (y := yX1_smallerThan) (n := 1) (As := [.int x]) (rest := []) hx hb hml hown hts hE hZ hP hS hl.1 (m_X1_smallerThan l D hAD σ v L F G hV (x)) k_X1_26 (ci := 1) (by omega) hV.1 rfl rfl rfl rfl rfl ⟨rfl, rfl⟩ ⟨Nat.le_of_ble_eq_true rfl, Nat.le_of_ble_eq_true rfl⟩ (Nat.le_of_ble_eq_true rfl) ⟨Nat.le_of_ble_eq_true rfl, Nat.le_of_ble_eq_true rfl⟩ dX1_milesOf_2 (fun v1 σ_2 H locs hq hP hS => ?_)
  obtain ⟨rfl, rfl⟩ := hq
  refine W.eq (g2 := F0 m 5 ls [.int (nI (rk_ L (x)))]) rfl ?_
  refine lv_istore_n (lv' := [(2, .int (nI (rk_ L (x)))), (0, .ref (ad_ D v)), (1, .int x)]) hx hb dX1_milesOf_5 rfl hl (by decide) rfl (fun ls hl => ?_)
  refine lv_aload_n hx hb dX1_milesOf_6 rfl (lv_at hl 1 rfl) ?_
  refine lv_iload_n hx hb dX1_milesOf_7 rfl (lv_at hl 0 rfl) ?_
  refine g_callV0 (y := yX1_nameAt) (n := 1) (As := [.int (nI (rk_ L (x)))]) (rest := []) hx hb hml hown hts hE hZ hP hS hl.1 (m_X1_nameAtN l D hAD σ v L F G hV (rk_ L (x)) (by omega)) k_X1_30 (ci := 1) (by omega) hV.1 rfl rfl rfl rfl rfl ⟨rfl, rfl⟩ ⟨Nat.le_of_ble_eq_true rfl, Nat.le_of_ble_eq_true rfl⟩ (Nat.le_of_ble_eq_true rfl) ⟨Nat.le_of_ble_eq_true rfl, Nat.le_of_ble_eq_true rfl⟩ dX1_milesOf_8 (fun v3 σ_4 H locs hq hP hS => ?_)
  obtain ⟨rfl, rfl⟩ := hq
  refine W.eq (g2 := F0 m 11 ls [.int (fn_ L (rk_ L (x)))]) rfl ?_
  refine lv_iload_n hx hb dX1_milesOf_11 rfl (lv_at hl 2 rfl) ?_
  refine lv_icmp_ne (tgt := 23) hx hb dX1_milesOf_12 (by decide) (fun h12 => ?_) (fun h12 => ?_)
  · refine lv_iconst (v := (-1)) hx hb dX1_milesOf_23 (by decide) ?_
    rw [← hQ]
    exact W.iret (v := (-1)) hx hb hr (fun t ht _ => g_fin (⟨by first | rw [mo_, if_pos h12] | rw [mo_, if_neg h12], rfl⟩) hP hS ht) hS.2.2 dX1_milesOf_24 hlocks
  · refine lv_aload_n hx hb dX1_milesOf_15 rfl (lv_at hl 1 rfl) ?_
    refine lv_iload_n hx hb dX1_milesOf_16 rfl (lv_at hl 0 rfl) ?_
    refine g_callV0 (y := yX1_milesAt) (n := 1) (As := [.int (nI (rk_ L (x)))]) (rest := []) hx hb hml hown hts hE hZ hP hS hl.1 (m_X1_milesAtN l D hAD σ v L F G hV (rk_ L (x)) (by omega)) k_X1_33 (ci := 1) (by omega) hV.1 rfl rfl rfl rfl rfl ⟨rfl, rfl⟩ ⟨Nat.le_of_ble_eq_true rfl, Nat.le_of_ble_eq_true rfl⟩ (Nat.le_of_ble_eq_true rfl) ⟨Nat.le_of_ble_eq_true rfl, Nat.le_of_ble_eq_true rfl⟩ dX1_milesOf_17 (fun v5 σ_6 H locs hq hP hS => ?_)
    obtain ⟨rfl, rfl⟩ := hq
    refine W.eq (g2 := F0 m 20 ls [.int (gn_ L (rk_ L (x)))]) rfl ?_
    refine lv_goto (tgt := 24) hx hb dX1_milesOf_20 (by decide) ?_
    rw [← hQ]
    exact W.iret (v := gn_ L (rk_ L (x))) hx hb hr (fun t ht _ => g_fin (⟨by first | rw [mo_, if_pos h12] | rw [mo_, if_neg h12], rfl⟩) hP hS ht) hS.2.2 dX1_milesOf_24 hlocks

abbrev m_X1_namesAlsoIn_rm : Room := { frames := 11, cells := 0, slots := 0, locals := 265 }
set_option maxHeartbeats 4000000 in
set_option maxRecDepth 100000 in
theorem m_X1_namesAlsoIn (l : Launch) (D : va_G) (hAD : g_AD D) (σ : Nat → va_E) (v : Nat) (L : g_L) (F G : Nat → Int32) (hV : g_VF D σ v L F G) (w : Nat) (M : g_L) (F2 G2 : Nat → Int32) (hV2 : g_VF D σ w M F2 G2) : g_M l D yX1_namesAlsoIn cX1_namesAlsoIn 4 (some .int) m_X1_namesAlsoIn_rm [.ref (ad_ D v), .ref (ad_ D w)] σ (fun v1 σ1 => v1 = some (.int (nI (cm_ L M L.length))) ∧ σ = σ1) := by
  refine g_ofW [(0, .ref (ad_ D v)), (1, .ref (ad_ D w))] (by decide +kernel) (Nat.le_of_ble_eq_true rfl) rfl ?_
  intro p e s m args below meth c hx hb hr hml hown hlocks hts hE hZ hP hS hnm ls hl
  have hown : s.vm.findClass RX1 = some m.cls := hown
  generalize hQ : MQ _ _ _ _ _ _ _ = Q
  obtain ⟨h0, h1, h2, hFG, hLn, hvv⟩ := id hV
  have hvv2 := hV2.2.2.2.2.2
  refine lv_iconst (v := nI 0) hx hb dX1_namesAlsoIn_0 (by decide) ?_
  refine lv_istore_n (lv' := [(2, .int (nI 0)), (0, .ref (ad_ D v)), (1, .ref (ad_ D w))]) hx hb dX1_namesAlsoIn_1 rfl hl (by decide) rfl (fun ls hl => ?_)
  refine lv_iconst (v := nI 0) hx hb dX1_namesAlsoIn_2 (by decide) ?_
  refine lv_istore_n (lv' := [(3, .int (nI 0)), (2, .int (nI 0)), (0, .ref (ad_ D v)), (1, .ref (ad_ D w))]) hx hb dX1_namesAlsoIn_3 rfl hl (by decide) rfl (fun ls hl => ?_)
  have K4 : ∀ (fuel4 : Nat) (i : Nat), (L.length - i) < fuel4 → (i ≤ L.length) → ∀ (H : Heap) (locs : List Loc), va_P D vwCl (g_W D σ) H → va_S (g_A D s.heap.size) s.heap H locs → ∀ ls : Array Slot, lv_has ls 4 [(3, .int (nI i)), (2, .int (nI (cm_ L M i))), (0, .ref (ad_ D v)), (1, .ref (ad_ D w))] → W p l e m_X1_namesAlsoIn_rm s m args below meth c H locs 0 0 Q (F0 m 4 ls []) := by
    intro fuel4
    induction fuel4 with
    | zero => intro i hf; exact absurd hf (Nat.not_lt_zero _)
    | succ fuel4 ih4 =>
      intro i hf4 hi H locs hP hS ls hl
      refine lv_iload_n hx hb dX1_namesAlsoIn_4 rfl (lv_at hl 0 rfl) ?_
      refine lv_aload_n hx hb dX1_namesAlsoIn_5 rfl (lv_at hl 2 rfl) ?_
      refine g_get hx hb hts hE hown hP g_inX1 rfl (by omega) h0 2 (by decide) rfl wf_X1_18 (v := .int (nI L.length)) rfl dX1_namesAlsoIn_6 ?_
      refine lv_icmp_ge (tgt := 34) hx hb dX1_namesAlsoIn_9 (by decide) (fun h9 => ?_) (fun h9 => ?_)
      · have hb9 := g_le (a := L.length) (b := i) h9 (by omega) (by omega)
        have hi2 : i = L.length := by omega
        refine lv_iload_n hx hb dX1_namesAlsoIn_34 rfl (lv_at hl 1 rfl) ?_
        rw [← hQ]
        exact W.iret (v := nI (cm_ L M i)) hx hb hr (fun t ht _ => g_fin (⟨by rw [hi2], rfl⟩) hP hS ht) hS.2.2 dX1_namesAlsoIn_35 hlocks
      · have hb9 := g_nle (a := L.length) (b := i) h9 (by omega) (by omega)
        refine lv_aload_n hx hb dX1_namesAlsoIn_12 rfl (lv_at hl 3 rfl) ?_
        refine lv_aload_n hx hb dX1_namesAlsoIn_13 rfl (lv_at hl 2 rfl) ?_
        refine lv_iload_n hx hb dX1_namesAlsoIn_14 rfl (lv_at hl 0 rfl) ?_
        refine g_callV0 (y := yX1_nameAt) (n := 1) (As := [.int (nI i)]) (rest := [.ref (ad_ D w)]) hx hb hml hown hts hE hZ hP hS hl.1 (m_X1_nameAtN l D hAD σ v L F G hV i (by omega)) k_X1_30 (ci := 1) (by omega) hV.1 rfl rfl rfl rfl rfl ⟨rfl, rfl⟩ ⟨Nat.le_of_ble_eq_true rfl, Nat.le_of_ble_eq_true rfl⟩ (Nat.le_of_ble_eq_true rfl) ⟨Nat.le_of_ble_eq_true rfl, Nat.le_of_ble_eq_true rfl⟩ dX1_namesAlsoIn_15 (fun v1 σ_2 H locs hq hP hS => ?_)
        obtain ⟨rfl, rfl⟩ := hq
        refine W.eq (g2 := F0 m 18 ls [.int (fn_ L i), .ref (ad_ D w)]) rfl ?_
        refine g_callV0 (y := yX1_milesOf) (n := 1) (As := [.int (fn_ L i)]) (rest := []) hx hb hml hown hts hE hZ hP hS hl.1 (m_X1_milesOf l D hAD σ w M F2 G2 hV2 (fn_ L i)) k_X1_36 (ci := 1) (by omega) hV2.1 rfl rfl rfl rfl rfl ⟨rfl, rfl⟩ ⟨Nat.le_of_ble_eq_true rfl, Nat.le_of_ble_eq_true rfl⟩ (Nat.le_of_ble_eq_true rfl) ⟨Nat.le_of_ble_eq_true rfl, Nat.le_of_ble_eq_true rfl⟩ dX1_namesAlsoIn_18 (fun v3 σ_4 H locs hq hP hS => ?_)
        obtain ⟨rfl, rfl⟩ := hq
        refine W.eq (g2 := F0 m 21 ls [.int (mo_ M (fn_ L i))]) rfl ?_
        refine lv_iconst (v := (-1)) hx hb dX1_namesAlsoIn_21 (by decide) ?_
        refine lv_icmp_eq (tgt := 28) hx hb dX1_namesAlsoIn_22 (by decide) (fun h22 => ?_) (fun h22 => ?_)
        · have hcm := (show cm_ L M (i + 1) = cm_ L M i by rw [cm_, if_pos h22]; rfl)
          rw [← hcm] at hl
          refine lv_iinc (v := nI (i + 1)) (lv' := [(3, .int (nI (i + 1))), (2, .int (nI (cm_ L M (i + 1)))), (0, .ref (ad_ D v)), (1, .ref (ad_ D w))]) hx hb dX1_namesAlsoIn_28 hl (k := 0) rfl (g_inc i) (by decide) rfl (fun ls hl => ?_)
          refine lv_goto (tgt := 4) hx hb dX1_namesAlsoIn_31 (by decide) ?_
          exact ih4 (i + 1) (by omega) (by omega) _ _ hP hS ls (lv_sub hl [0, 1, 2, 3] rfl)
        · refine lv_iinc (v := nI (cm_ L M i + 1)) (lv' := [(2, .int (nI (cm_ L M i + 1))), (3, .int (nI i)), (0, .ref (ad_ D v)), (1, .ref (ad_ D w))]) hx hb dX1_namesAlsoIn_25 hl (k := 1) rfl (g_inc (cm_ L M i)) (by decide) rfl (fun ls hl => ?_)
          have hcm := (show cm_ L M (i + 1) = cm_ L M i + 1 by rw [cm_, if_neg h22])
          rw [← hcm] at hl
          refine lv_iinc (v := nI (i + 1)) (lv' := [(3, .int (nI (i + 1))), (2, .int (nI (cm_ L M (i + 1)))), (0, .ref (ad_ D v)), (1, .ref (ad_ D w))]) hx hb dX1_namesAlsoIn_28 hl (k := 1) rfl (g_inc i) (by decide) rfl (fun ls hl => ?_)
          refine lv_goto (tgt := 4) hx hb dX1_namesAlsoIn_31 (by decide) ?_
          exact ih4 (i + 1) (by omega) (by omega) _ _ hP hS ls (lv_sub hl [0, 1, 2, 3] rfl)
  exact K4 ((L.length - 0) + 1) 0 (Nat.lt_succ_self _) (Nat.zero_le _) _ _ hP hS ls (lv_sub hl [0, 1, 2, 3] rfl)

abbrev m_X1_makeRoomAt_rm : Room := { frames := 9, cells := 0, slots := 0, locals := 222 }
set_option maxHeartbeats 4000000 in
set_option maxRecDepth 100000 in
theorem m_X1_makeRoomAt (l : Launch) (D : va_G) (hAD : g_AD D) (σ : Nat → va_E) (v n k : Nat) (F G : Nat → Int32) (h0 : σ v = .inr (1, [.ref (ad_ D (v + 1)), .ref (ad_ D (v + 2)), .int (nI n)])) (h1 : σ (v + 1) = .inl (g_cI D, 48, .inl F)) (h2 : σ (v + 2) = .inl (g_cI D, 48, .inl G)) (hvv : v + 2 < 33) (hn : n < 48) (hk : k ≤ n) : g_M l D yX1_makeRoomAt cX1_makeRoomAt 3 none m_X1_makeRoomAt_rm [.ref (ad_ D v), .int (nI k)] σ (fun v1 σ1 => v1 = none ∧ σ1 v = .inr (1, [.ref (ad_ D (v + 1)), .ref (ad_ D (v + 2)), .int (nI (n + 1))]) ∧ σ1 (v + 1) = .inl (g_cI D, 48, .inl (sh_ F k n)) ∧ σ1 (v + 2) = .inl (g_cI D, 48, .inl (sh_ G k n)) ∧ g_off v (v + 2) σ σ1) := by
  refine g_ofW [(0, .ref (ad_ D v)), (1, .int (nI k))] (by decide +kernel) (Nat.le_of_ble_eq_true rfl) rfl ?_
  intro p e s m args below meth c hx hb hr hml hown hlocks hts hE hZ hP hS hnm ls hl
  have hown : s.vm.findClass RX1 = some m.cls := hown
  generalize hQ : MQ _ _ _ _ _ _ _ = Q
  refine lv_aload_n hx hb dX1_makeRoomAt_0 rfl (lv_at hl 0 rfl) ?_
  refine g_get hx hb hts hE hown hP g_inX1 rfl (by omega) h0 2 (by decide) rfl wf_X1_18 (v := .int (nI n)) rfl dX1_makeRoomAt_1 ?_
  refine lv_istore_n (lv' := [(2, .int (nI n)), (0, .ref (ad_ D v)), (1, .int (nI k))]) hx hb dX1_makeRoomAt_4 rfl hl (by decide) rfl (fun ls hl => ?_)
  have K5 : ∀ (fuel5 : Nat) (j : Nat) (σ2 : Nat → va_E), (j) < fuel5 → (k ≤ j ∧ j ≤ n) → (σ2 v = .inr (1, [.ref (ad_ D (v + 1)), .ref (ad_ D (v + 2)), .int (nI n)])) → (σ2 (v + 1) = .inl (g_cI D, 48, .inl (sh_ F j n))) → (σ2 (v + 2) = .inl (g_cI D, 48, .inl (sh_ G j n))) → (g_off v (v + 2) σ σ2) → ∀ (H : Heap) (locs : List Loc), va_P D vwCl (g_W D σ2) H → va_S (g_A D s.heap.size) s.heap H locs → ∀ ls : Array Slot, lv_has ls 3 [(2, .int (nI j)), (0, .ref (ad_ D v)), (1, .int (nI k))] → W p l e m_X1_makeRoomAt_rm s m args below meth c H locs 0 0 Q (F0 m 5 ls []) := by
    intro fuel5
    induction fuel5 with
    | zero => intro j σ2 hf; exact absurd hf (Nat.not_lt_zero _)
    | succ fuel5 ih5 =>
      intro j σ2 hf5 hj i0 i1 i2 io H locs hP hS ls hl
      refine lv_iload_n hx hb dX1_makeRoomAt_5 rfl (lv_at hl 0 rfl) ?_
      refine lv_iload_n hx hb dX1_makeRoomAt_6 rfl (lv_at hl 2 rfl) ?_
      refine lv_icmp_le (tgt := 52) hx hb dX1_makeRoomAt_7 (by decide) (fun h7 => ?_) (fun h7 => ?_)
      · have hb7 := g_le (a := j) (b := k) h7 (by omega) (by omega)
        refine lv_aload_n hx hb dX1_makeRoomAt_52 rfl (lv_at hl 1 rfl) ?_
        refine lv_dup hx hb dX1_makeRoomAt_53 rfl ?_
        refine g_get hx hb hts hE hown hP g_inX1 rfl (by omega) i0 2 (by decide) rfl wf_X1_18 (v := .int (nI n)) rfl dX1_makeRoomAt_54 ?_
        refine lv_iconst (v := nI 1) hx hb dX1_makeRoomAt_57 (by decide) ?_
        refine lv_iadd hx hb dX1_makeRoomAt_58 ?_
        refine g_top (y := nI (n + 1)) (nI_add n 1) ?_
        refine g_put hx hb hts hE hown hAD hP hS g_inX1 tyX1 tyX1_ok nmX1 rfl (by omega) i0 2 (by decide) rfl rfl (by decide +kernel) wf_X1_18 (v := nI (n + 1)) (Nat.le_of_ble_eq_true rfl) dX1_makeRoomAt_59 (fun H locs hP hS => ?_)
        obtain ⟨σ_1, hσ2⟩ : ∃ z : Nat → va_E, z = va_up σ2 v (.inr (1, [.ref (ad_ D (v + 1)), .ref (ad_ D (v + 2)), .int (nI (n + 1))])) := ⟨_, rfl⟩
        have hP : va_P D vwCl (g_W D σ_1) H := by rw [hσ2]; exact hP
        have hc3 : σ_1 v = .inr (1, [.ref (ad_ D (v + 1)), .ref (ad_ D (v + 2)), .int (nI (n + 1))]) := by rw [hσ2]; exact g_ups
        have hc4 := (by rw [hσ2]; exact g_upn i1 (by omega) : σ_1 (v + 1) = .inl (g_cI D, 48, .inl (sh_ F j n)))
        have hc5 := (by rw [hσ2]; exact g_upn i2 (by omega) : σ_1 (v + 2) = .inl (g_cI D, 48, .inl (sh_ G j n)))
        have ho6 : g_off v (v + 2) σ σ_1 := by rw [hσ2]; exact g_off.up io (by omega) (by omega)
        have hjk : j = k := by omega
        subst hjk
        rw [← hQ]
        exact W.vret hx hb hr (fun t ht _ => g_fin (⟨rfl, hc3, hc4, hc5, ho6⟩) hP hS ht) hS.2.2 dX1_makeRoomAt_62 hlocks
      · have hb7 := g_nle (a := j) (b := k) h7 (by omega) (by omega)
        refine lv_aload_n hx hb dX1_makeRoomAt_10 rfl (lv_at hl 1 rfl) ?_
        refine g_get hx hb hts hE hown hP g_inX1 rfl (by omega) i0 0 (by decide) rfl wf_X1_9 (v := .ref (ad_ D (v + 1))) rfl dX1_makeRoomAt_11 ?_
        refine lv_iload_n hx hb dX1_makeRoomAt_14 rfl (lv_at hl 0 rfl) ?_
        refine lv_aload_n hx hb dX1_makeRoomAt_15 rfl (lv_at hl 1 rfl) ?_
        refine g_get hx hb hts hE hown hP g_inX1 rfl (by omega) i0 0 (by decide) rfl wf_X1_9 (v := .ref (ad_ D (v + 1))) rfl dX1_makeRoomAt_16 ?_
        refine lv_iload_n hx hb dX1_makeRoomAt_19 rfl (lv_at hl 0 rfl) ?_
        refine lv_iconst (v := nI 1) hx hb dX1_makeRoomAt_20 (by decide) ?_
        refine lv_isub hx hb dX1_makeRoomAt_21 ?_
        refine g_top (y := nI (j - 1)) (pk_sub (by omega)) ?_
        refine g_callN0 (y := yX2_read) (n := 2) (As := [.ref (ad_ D (v + 1)), .int (nI (j - 1))]) (rest := [.int (nI j), .ref (ad_ D (v + 1))]) hx hb hml hown hts hE hZ hP hS hl.1 (m_X2_read l D hAD σ2 (v + 1) 48 (sh_ F j n) (nI (j - 1)) (by omega) (by decide) i1) k_X1_22 rfl rfl ⟨rfl, rfl⟩ ⟨Nat.le_of_ble_eq_true rfl, Nat.le_of_ble_eq_true rfl⟩ (Nat.le_of_ble_eq_true rfl) ⟨Nat.le_of_ble_eq_true rfl, Nat.le_of_ble_eq_true rfl⟩ dX1_makeRoomAt_22 (fun v7 σ_8 H locs hq hP hS => ?_)
        obtain ⟨rfl, rfl⟩ := hq
        refine W.eq (g2 := F0 m 25 ls [.int (rd_ (sh_ F j n) 48 (nI (j - 1))), .int (nI j), .ref (ad_ D (v + 1))]) rfl ?_
        refine g_top (y := F (j - 1)) ((rd_in (by omega) (by decide)).trans (sh_lo (by omega))) ?_
        refine g_callN0 (y := yX2_write) (n := 3) (As := [.ref (ad_ D (v + 1)), .int (nI j), .int (F (j - 1))]) (rest := []) hx hb hml hown hts hE hZ hP hS hl.1 (m_X2_write l D hAD σ2 (v + 1) 48 (sh_ F j n) (nI j) (F (j - 1)) (by omega) (by decide) i1) k_X1_43 rfl rfl ⟨rfl, rfl⟩ ⟨Nat.le_of_ble_eq_true rfl, Nat.le_of_ble_eq_true rfl⟩ (Nat.le_of_ble_eq_true rfl) ⟨Nat.le_of_ble_eq_true rfl, Nat.le_of_ble_eq_true rfl⟩ dX1_makeRoomAt_25 (fun v9 σ_10 H locs hq hP hS => ?_)
        obtain ⟨rfl, hw, hfr⟩ := hq
        refine W.eq (g2 := F0 m 28 ls []) rfl ?_
        rw [wr_in (by omega) (by decide)] at hw
        have hc11 := (hfr v (by omega)).trans i0
        have hc12 := hw
        have hc13 := (hfr (v + 2) (by omega)).trans i2
        have ho14 := g_off.one io hfr (by omega) (by omega)
        refine lv_aload_n hx hb dX1_makeRoomAt_28 rfl (lv_at hl 1 rfl) ?_
        refine g_get hx hb hts hE hown hP g_inX1 rfl (by omega) hc11 1 (by decide) rfl wf_X1_15 (v := .ref (ad_ D (v + 2))) rfl dX1_makeRoomAt_29 ?_
        refine lv_iload_n hx hb dX1_makeRoomAt_32 rfl (lv_at hl 0 rfl) ?_
        refine lv_aload_n hx hb dX1_makeRoomAt_33 rfl (lv_at hl 1 rfl) ?_
        refine g_get hx hb hts hE hown hP g_inX1 rfl (by omega) hc11 1 (by decide) rfl wf_X1_15 (v := .ref (ad_ D (v + 2))) rfl dX1_makeRoomAt_34 ?_
        refine lv_iload_n hx hb dX1_makeRoomAt_37 rfl (lv_at hl 0 rfl) ?_
        refine lv_iconst (v := nI 1) hx hb dX1_makeRoomAt_38 (by decide) ?_
        refine lv_isub hx hb dX1_makeRoomAt_39 ?_
        refine g_top (y := nI (j - 1)) (pk_sub (by omega)) ?_
        refine g_callN0 (y := yX2_read) (n := 2) (As := [.ref (ad_ D (v + 2)), .int (nI (j - 1))]) (rest := [.int (nI j), .ref (ad_ D (v + 2))]) hx hb hml hown hts hE hZ hP hS hl.1 (m_X2_read l D hAD σ_10 (v + 2) 48 (sh_ G j n) (nI (j - 1)) (by omega) (by decide) hc13) k_X1_22 rfl rfl ⟨rfl, rfl⟩ ⟨Nat.le_of_ble_eq_true rfl, Nat.le_of_ble_eq_true rfl⟩ (Nat.le_of_ble_eq_true rfl) ⟨Nat.le_of_ble_eq_true rfl, Nat.le_of_ble_eq_true rfl⟩ dX1_makeRoomAt_40 (fun v15 σ_16 H locs hq hP hS => ?_)
        obtain ⟨rfl, rfl⟩ := hq
        refine W.eq (g2 := F0 m 43 ls [.int (rd_ (sh_ G j n) 48 (nI (j - 1))), .int (nI j), .ref (ad_ D (v + 2))]) rfl ?_
        refine g_top (y := G (j - 1)) ((rd_in (by omega) (by decide)).trans (sh_lo (by omega))) ?_
        refine g_callN0 (y := yX2_write) (n := 3) (As := [.ref (ad_ D (v + 2)), .int (nI j), .int (G (j - 1))]) (rest := []) hx hb hml hown hts hE hZ hP hS hl.1 (m_X2_write l D hAD σ_10 (v + 2) 48 (sh_ G j n) (nI j) (G (j - 1)) (by omega) (by decide) hc13) k_X1_43 rfl rfl ⟨rfl, rfl⟩ ⟨Nat.le_of_ble_eq_true rfl, Nat.le_of_ble_eq_true rfl⟩ (Nat.le_of_ble_eq_true rfl) ⟨Nat.le_of_ble_eq_true rfl, Nat.le_of_ble_eq_true rfl⟩ dX1_makeRoomAt_43 (fun v17 σ_18 H locs hq hP hS => ?_)
        obtain ⟨rfl, hw, hfr⟩ := hq
        refine W.eq (g2 := F0 m 46 ls []) rfl ?_
        rw [wr_in (by omega) (by decide)] at hw
        have hc19 := (hfr v (by omega)).trans hc11
        have hc20 := (hfr (v + 1) (by omega)).trans hc12
        have hc21 := hw
        have ho22 := g_off.one ho14 hfr (by omega) (by omega)
        refine lv_iinc (v := nI (j - 1)) (lv' := [(2, .int (nI (j - 1))), (0, .ref (ad_ D v)), (1, .int (nI k))]) hx hb dX1_makeRoomAt_46 hl (k := 0) rfl (g_dec (by omega)) (by decide) rfl (fun ls hl => ?_)
        refine lv_goto (tgt := 5) hx hb dX1_makeRoomAt_49 (by decide) ?_
        exact ih5 (j - 1) σ_18 (by omega) (by omega) hc19 (by rw [← sh_step (F := F) (j := j) (by omega) (by omega)]; exact hc20) (by rw [← sh_step (F := G) (j := j) (by omega) (by omega)]; exact hc21) ho22 _ _ hP hS ls (lv_sub hl [0, 1, 2] rfl)
  exact K5 ((n) + 1) n σ (Nat.lt_succ_self _) (by omega) h0 (by rw [sh_0]; exact h1) (by rw [sh_0]; exact h2) g_off.rf _ _ hP hS ls (lv_sub hl [0, 1, 2] rfl)

abbrev m_X1_set_rm : Room := { frames := 10, cells := 0, slots := 0, locals := 244 }
set_option maxHeartbeats 4000000 in
set_option maxRecDepth 100000 in
theorem m_X1_set (l : Launch) (D : va_G) (hAD : g_AD D) (σ : Nat → va_E) (v : Nat) (L : g_L) (F G : Nat → Int32) (hV : g_VF D σ v L F G) (x y : Int32) (hxx : x ≠ -1) (hrr : fn_ L (rk_ L x) = x ∨ L.length < 48) : g_M l D yX1_set cX1_set 4 none m_X1_set_rm [.ref (ad_ D v), .int x, .int y] σ (fun v1 σ1 => v1 = none ∧ ∃ F1 G1 : Nat → Int32, g_VF D σ1 v (st_ L x y) F1 G1 ∧ g_off v (v + 2) σ σ1 ∧ ∀ j, L.length < j → F1 j = F j ∧ G1 j = G j) := by
  refine g_ofW [(0, .ref (ad_ D v)), (1, .int x), (2, .int y)] (by decide +kernel) (Nat.le_of_ble_eq_true rfl) rfl ?_
  intro p e s m args below meth c hx hb hr hml hown hlocks hts hE hZ hP hS hnm ls hl
  have hown : s.vm.findClass RX1 = some m.cls := hown
  generalize hQ : MQ _ _ _ _ _ _ _ = Q
  obtain ⟨h0, h1, h2, hFG, hLn, hvv⟩ := id hV
  have hrk := rk_le L x
  refine lv_aload_n hx hb dX1_set_0 rfl (lv_at hl 0 rfl) ?_
  refine lv_iload_n hx hb dX1_set_1 rfl (lv_at hl 1 rfl) ?_
  refine g_callV0 (y := yX1_smallerThan) (n := 1) (As := [.int x]) (rest := []) hx hb hml hown hts hE hZ hP hS hl.1 (m_X1_smallerThan l D hAD σ v L F G hV (x)) k_X1_26 (ci := 1) (by omega) hV.1 rfl rfl rfl rfl rfl ⟨rfl, rfl⟩ ⟨Nat.le_of_ble_eq_true rfl, Nat.le_of_ble_eq_true rfl⟩ (Nat.le_of_ble_eq_true rfl) ⟨Nat.le_of_ble_eq_true rfl, Nat.le_of_ble_eq_true rfl⟩ dX1_set_2 (fun v1 σ_2 H locs hq hP hS => ?_)
  obtain ⟨rfl, rfl⟩ := hq
  refine W.eq (g2 := F0 m 5 ls [.int (nI (rk_ L (x)))]) rfl ?_
  refine lv_istore_n (lv' := [(3, .int (nI (rk_ L (x)))), (0, .ref (ad_ D v)), (1, .int x), (2, .int y)]) hx hb dX1_set_5 rfl hl (by decide) rfl (fun ls hl => ?_)
  refine lv_aload_n hx hb dX1_set_6 rfl (lv_at hl 1 rfl) ?_
  refine lv_iload_n hx hb dX1_set_7 rfl (lv_at hl 0 rfl) ?_
  refine g_callV0 (y := yX1_nameAt) (n := 1) (As := [.int (nI (rk_ L (x)))]) (rest := []) hx hb hml hown hts hE hZ hP hS hl.1 (m_X1_nameAtN l D hAD σ v L F G hV (rk_ L (x)) (by omega)) k_X1_30 (ci := 1) (by omega) hV.1 rfl rfl rfl rfl rfl ⟨rfl, rfl⟩ ⟨Nat.le_of_ble_eq_true rfl, Nat.le_of_ble_eq_true rfl⟩ (Nat.le_of_ble_eq_true rfl) ⟨Nat.le_of_ble_eq_true rfl, Nat.le_of_ble_eq_true rfl⟩ dX1_set_8 (fun v3 σ_4 H locs hq hP hS => ?_)
  obtain ⟨rfl, rfl⟩ := hq
  refine W.eq (g2 := F0 m 11 ls [.int (fn_ L (rk_ L (x)))]) rfl ?_
  refine lv_iload_n hx hb dX1_set_11 rfl (lv_at hl 2 rfl) ?_
  refine lv_icmp_eq (tgt := 20) hx hb dX1_set_12 (by decide) (fun h12 => ?_) (fun h12 => ?_)
  · have hlt := fn_in h12 hxx
    refine lv_aload_n hx hb dX1_set_20 rfl (lv_at hl 1 rfl) ?_
    refine g_get hx hb hts hE hown hP g_inX1 rfl (by omega) h0 0 (by decide) rfl wf_X1_9 (v := .ref (ad_ D (v + 1))) rfl dX1_set_21 ?_
    refine lv_iload_n hx hb dX1_set_24 rfl (lv_at hl 0 rfl) ?_
    refine lv_iload_n hx hb dX1_set_25 rfl (lv_at hl 2 rfl) ?_
    refine g_callN0 (y := yX2_write) (n := 3) (As := [.ref (ad_ D (v + 1)), .int (nI (rk_ L (x))), .int x]) (rest := []) hx hb hml hown hts hE hZ hP hS hl.1 (m_X2_write l D hAD σ (v + 1) 48 (F) (nI (rk_ L (x))) (x) (by omega) (by decide) h1) k_X1_43 rfl rfl ⟨rfl, rfl⟩ ⟨Nat.le_of_ble_eq_true rfl, Nat.le_of_ble_eq_true rfl⟩ (Nat.le_of_ble_eq_true rfl) ⟨Nat.le_of_ble_eq_true rfl, Nat.le_of_ble_eq_true rfl⟩ dX1_set_26 (fun v5 σ_6 H locs hq hP hS => ?_)
    obtain ⟨rfl, hw, hfr⟩ := hq
    refine W.eq (g2 := F0 m 29 ls []) rfl ?_
    rw [wr_in (by omega) (by decide)] at hw
    have hc7 := (hfr v (by omega)).trans h0
    have hc8 := hw
    have hc9 := (hfr (v + 2) (by omega)).trans h2
    have ho10 := g_off.one (g_off.rf (lo := v) (hi := (v + 2)) (σ := σ)) hfr (by omega) (by omega)
    refine lv_aload_n hx hb dX1_set_29 rfl (lv_at hl 1 rfl) ?_
    refine g_get hx hb hts hE hown hP g_inX1 rfl (by omega) hc7 1 (by decide) rfl wf_X1_15 (v := .ref (ad_ D (v + 2))) rfl dX1_set_30 ?_
    refine lv_iload_n hx hb dX1_set_33 rfl (lv_at hl 0 rfl) ?_
    refine lv_iload_n hx hb dX1_set_34 rfl (lv_at hl 3 rfl) ?_
    refine g_callN0 (y := yX2_write) (n := 3) (As := [.ref (ad_ D (v + 2)), .int (nI (rk_ L (x))), .int y]) (rest := []) hx hb hml hown hts hE hZ hP hS hl.1 (m_X2_write l D hAD σ_6 (v + 2) 48 (G) (nI (rk_ L (x))) (y) (by omega) (by decide) hc9) k_X1_43 rfl rfl ⟨rfl, rfl⟩ ⟨Nat.le_of_ble_eq_true rfl, Nat.le_of_ble_eq_true rfl⟩ (Nat.le_of_ble_eq_true rfl) ⟨Nat.le_of_ble_eq_true rfl, Nat.le_of_ble_eq_true rfl⟩ dX1_set_35 (fun v11 σ_12 H locs hq hP hS => ?_)
    obtain ⟨rfl, hw, hfr⟩ := hq
    refine W.eq (g2 := F0 m 38 ls []) rfl ?_
    rw [wr_in (by omega) (by decide)] at hw
    have hc13 := (hfr v (by omega)).trans hc7
    have hc14 := (hfr (v + 1) (by omega)).trans hc8
    have hc15 := hw
    have ho16 := g_off.one ho10 hfr (by omega) (by omega)
    rw [← hQ]
    exact W.vret hx hb hr (fun t ht _ => g_fin (⟨rfl, upd F (rk_ L x) x, upd G (rk_ L x) y, ⟨by rw [st_len, if_pos h12]; exact hc13, hc14, hc15, rep_set hxx h12 hFG, by rw [st_len, if_pos h12]; exact hLn, hvv⟩, ho16, fun j hj => (by have q9 := fn_in h12 hxx; have e : ¬ j = rk_ L x := (by omega); simp only [upd, if_neg e]; exact ⟨trivial, trivial⟩)⟩) hP hS ht) hS.2.2 dX1_set_38 hlocks
  · have hrr := hrr.resolve_left h12
    refine lv_aload_n hx hb dX1_set_15 rfl (lv_at hl 1 rfl) ?_
    refine lv_iload_n hx hb dX1_set_16 rfl (lv_at hl 0 rfl) ?_
    refine g_callV0 (y := yX1_makeRoomAt) (n := 1) (As := [.int (nI (rk_ L (x)))]) (rest := []) hx hb hml hown hts hE hZ hP hS hl.1 (m_X1_makeRoomAt l D hAD σ v L.length (rk_ L x) F G h0 h1 h2 hvv (by omega) hrk) k_X1_39 (ci := 1) (by omega) h0 rfl rfl rfl rfl rfl ⟨rfl, rfl⟩ ⟨Nat.le_of_ble_eq_true rfl, Nat.le_of_ble_eq_true rfl⟩ (Nat.le_of_ble_eq_true rfl) ⟨Nat.le_of_ble_eq_true rfl, Nat.le_of_ble_eq_true rfl⟩ dX1_set_17 (fun v17 σ_18 H locs hq hP hS => ?_)
    obtain ⟨rfl, hq2⟩ := hq
    refine W.eq (g2 := F0 m 20 ls []) rfl ?_
    obtain ⟨q0, q1, q2, qo⟩ := hq2
    refine lv_aload_n hx hb dX1_set_20 rfl (lv_at hl 1 rfl) ?_
    refine g_get hx hb hts hE hown hP g_inX1 rfl (by omega) q0 0 (by decide) rfl wf_X1_9 (v := .ref (ad_ D (v + 1))) rfl dX1_set_21 ?_
    refine lv_iload_n hx hb dX1_set_24 rfl (lv_at hl 0 rfl) ?_
    refine lv_iload_n hx hb dX1_set_25 rfl (lv_at hl 2 rfl) ?_
    refine g_callN0 (y := yX2_write) (n := 3) (As := [.ref (ad_ D (v + 1)), .int (nI (rk_ L (x))), .int x]) (rest := []) hx hb hml hown hts hE hZ hP hS hl.1 (m_X2_write l D hAD σ_18 (v + 1) 48 (sh_ F (rk_ L x) L.length) (nI (rk_ L (x))) (x) (by omega) (by decide) q1) k_X1_43 rfl rfl ⟨rfl, rfl⟩ ⟨Nat.le_of_ble_eq_true rfl, Nat.le_of_ble_eq_true rfl⟩ (Nat.le_of_ble_eq_true rfl) ⟨Nat.le_of_ble_eq_true rfl, Nat.le_of_ble_eq_true rfl⟩ dX1_set_26 (fun v19 σ_20 H locs hq hP hS => ?_)
    obtain ⟨rfl, hw, hfr⟩ := hq
    refine W.eq (g2 := F0 m 29 ls []) rfl ?_
    rw [wr_in (by omega) (by decide)] at hw
    have hc21 := (hfr v (by omega)).trans q0
    have hc22 := hw
    have hc23 := (hfr (v + 2) (by omega)).trans q2
    have ho24 := g_off.one qo hfr (by omega) (by omega)
    refine lv_aload_n hx hb dX1_set_29 rfl (lv_at hl 1 rfl) ?_
    refine g_get hx hb hts hE hown hP g_inX1 rfl (by omega) hc21 1 (by decide) rfl wf_X1_15 (v := .ref (ad_ D (v + 2))) rfl dX1_set_30 ?_
    refine lv_iload_n hx hb dX1_set_33 rfl (lv_at hl 0 rfl) ?_
    refine lv_iload_n hx hb dX1_set_34 rfl (lv_at hl 3 rfl) ?_
    refine g_callN0 (y := yX2_write) (n := 3) (As := [.ref (ad_ D (v + 2)), .int (nI (rk_ L (x))), .int y]) (rest := []) hx hb hml hown hts hE hZ hP hS hl.1 (m_X2_write l D hAD σ_20 (v + 2) 48 (sh_ G (rk_ L x) L.length) (nI (rk_ L (x))) (y) (by omega) (by decide) hc23) k_X1_43 rfl rfl ⟨rfl, rfl⟩ ⟨Nat.le_of_ble_eq_true rfl, Nat.le_of_ble_eq_true rfl⟩ (Nat.le_of_ble_eq_true rfl) ⟨Nat.le_of_ble_eq_true rfl, Nat.le_of_ble_eq_true rfl⟩ dX1_set_35 (fun v25 σ_26 H locs hq hP hS => ?_)
    obtain ⟨rfl, hw, hfr⟩ := hq
    refine W.eq (g2 := F0 m 38 ls []) rfl ?_
    rw [wr_in (by omega) (by decide)] at hw
    have hc27 := (hfr v (by omega)).trans hc21
    have hc28 := (hfr (v + 1) (by omega)).trans hc22
    have hc29 := hw
    have ho30 := g_off.one ho24 hfr (by omega) (by omega)
    rw [← hQ]
    exact W.vret hx hb hr (fun t ht _ => g_fin (⟨rfl, upd (sh_ F (rk_ L x) L.length) (rk_ L x) x, upd (sh_ G (rk_ L x) L.length) (rk_ L x) y, ⟨by rw [st_len, if_neg h12]; exact hc27, hc28, hc29, rep_ins h12 hFG, by rw [st_len, if_neg h12]; omega, hvv⟩, ho30, fun j hj => (by have e : ¬ j = rk_ L x := (by omega); simp only [upd, if_neg e]; exact ⟨sh_hi hj, sh_hi hj⟩)⟩) hP hS ht) hS.2.2 dX1_set_38 hlocks
end
section
def hs_ (L : g_L) (a t : Nat) : Int32 := if a < t then nI 15 - fub_ (fn_ L a) (fn_ L (t - 1)) else 0
abbrev m_X1_keepFirst_rm : Room := { frames := 8, cells := 0, slots := 0, locals := 200 }
set_option maxHeartbeats 4000000 in
set_option maxRecDepth 100000 in
theorem m_X1_keepFirst (l : Launch) (D : va_G) (hAD : g_AD D) (σ : Nat → va_E) (v : Nat) (L : g_L) (F G : Nat → Int32) (hV : g_VF D σ v L F G) (k : Nat) (hk : k ≤ L.length) : g_M l D yX1_keepFirst cX1_keepFirst 2 none m_X1_keepFirst_rm [.ref (ad_ D v), .int (nI k)] σ (fun v1 σ1 => v1 = none ∧ g_VF D σ1 v (L.take k) F G ∧ g_off v (v + 2) σ σ1) := by
  refine g_ofW [(0, .ref (ad_ D v)), (1, .int (nI k))] (by decide +kernel) (Nat.le_of_ble_eq_true rfl) rfl ?_
  intro p e s m args below meth c hx hb hr hml hown hlocks hts hE hZ hP hS hnm ls hl
  have hown : s.vm.findClass RX1 = some m.cls := hown
  generalize hQ : MQ _ _ _ _ _ _ _ = Q
  obtain ⟨h0, h1, h2, hFG, hLn, hvv⟩ := id hV
  refine lv_aload_n hx hb dX1_keepFirst_0 rfl (lv_at hl 0 rfl) ?_
  refine lv_iload_n hx hb dX1_keepFirst_1 rfl (lv_at hl 1 rfl) ?_
  refine g_put hx hb hts hE hown hAD hP hS g_inX1 tyX1 tyX1_ok nmX1 rfl (by omega) h0 2 (by decide) rfl rfl (by decide +kernel) wf_X1_18 (v := nI k) (Nat.le_of_ble_eq_true rfl) dX1_keepFirst_2 (fun H locs hP hS => ?_)
  obtain ⟨σ_1, hσ2⟩ : ∃ z : Nat → va_E, z = va_up σ v (.inr (1, [.ref (ad_ D (v + 1)), .ref (ad_ D (v + 2)), .int (nI k)])) := ⟨_, rfl⟩
  have hP : va_P D vwCl (g_W D σ_1) H := by rw [hσ2]; exact hP
  have hc3 : σ_1 v = .inr (1, [.ref (ad_ D (v + 1)), .ref (ad_ D (v + 2)), .int (nI k)]) := by rw [hσ2]; exact g_ups
  have hc4 := (by rw [hσ2]; exact g_upn h1 (by omega) : σ_1 (v + 1) = .inl (g_cI D, 48, .inl (F)))
  have hc5 := (by rw [hσ2]; exact g_upn h2 (by omega) : σ_1 (v + 2) = .inl (g_cI D, 48, .inl (G)))
  have ho6 : g_off v (v + 2) σ σ_1 := by rw [hσ2]; exact g_off.up (g_off.rf (lo := v) (hi := (v + 2)) (σ := σ)) (by omega) (by omega)
  rw [← hQ]
  exact W.vret hx hb hr (fun t ht _ => g_fin (⟨rfl, ⟨by rw [List.length_take, Nat.min_eq_left hk]; exact hc3, hc4, hc5, rep_take hFG, by rw [List.length_take]; omega, hvv⟩, ho6⟩) hP hS ht) hS.2.2 dX1_keepFirst_5 hlocks

abbrev m_X1_removeName_rm : Room := { frames := 10, cells := 0, slots := 0, locals := 243 }
set_option maxHeartbeats 4000000 in
set_option maxRecDepth 100000 in
theorem m_X1_removeName (l : Launch) (D : va_G) (hAD : g_AD D) (σ : Nat → va_E) (v : Nat) (L : g_L) (F G : Nat → Int32) (hV : g_VF D σ v L F G) (x : Int32) (hlt : rk_ L x < L.length) : g_M l D yX1_removeName cX1_removeName 3 none m_X1_removeName_rm [.ref (ad_ D v), .int x] σ (fun v1 σ1 => v1 = none ∧ g_V D σ1 v (L.eraseIdx (rk_ L x)) ∧ g_off v (v + 2) σ σ1) := by
  refine g_ofW [(0, .ref (ad_ D v)), (1, .int x)] (by decide +kernel) (Nat.le_of_ble_eq_true rfl) rfl ?_
  intro p e s m args below meth c hx hb hr hml hown hlocks hts hE hZ hP hS hnm ls hl
  have hown : s.vm.findClass RX1 = some m.cls := hown
  generalize hQ : MQ _ _ _ _ _ _ _ = Q
  obtain ⟨h0, h1, h2, hFG, hLn, hvv⟩ := id hV
  refine lv_aload_n hx hb dX1_removeName_0 rfl (lv_at hl 0 rfl) ?_
  refine lv_iload_n hx hb dX1_removeName_1 rfl (lv_at hl 1 rfl) ?_
  refine g_callV0 (y := yX1_smallerThan) (n := 1) (As := [.int x]) (rest := []) hx hb hml hown hts hE hZ hP hS hl.1 (m_X1_smallerThan l D hAD σ v L F G hV (x)) k_X1_26 (ci := 1) (by omega) hV.1 rfl rfl rfl rfl rfl ⟨rfl, rfl⟩ ⟨Nat.le_of_ble_eq_true rfl, Nat.le_of_ble_eq_true rfl⟩ (Nat.le_of_ble_eq_true rfl) ⟨Nat.le_of_ble_eq_true rfl, Nat.le_of_ble_eq_true rfl⟩ dX1_removeName_2 (fun v1 σ_2 H locs hq hP hS => ?_)
  obtain ⟨rfl, rfl⟩ := hq
  refine W.eq (g2 := F0 m 5 ls [.int (nI (rk_ L (x)))]) rfl ?_
  refine lv_istore_n (lv' := [(2, .int (nI (rk_ L (x)))), (0, .ref (ad_ D v)), (1, .int x)]) hx hb dX1_removeName_5 rfl hl (by decide) rfl (fun ls hl => ?_)
  have K6 : ∀ (fuel6 : Nat) (j : Nat) (σ2 : Nat → va_E), (L.length - j) < fuel6 → (rk_ L x ≤ j ∧ j ≤ L.length - 1) → (σ2 v = .inr (1, [.ref (ad_ D (v + 1)), .ref (ad_ D (v + 2)), .int (nI L.length)])) → (σ2 (v + 1) = .inl (g_cI D, 48, .inl (rm_ F (rk_ L x) j))) → (σ2 (v + 2) = .inl (g_cI D, 48, .inl (rm_ G (rk_ L x) j))) → (g_off v (v + 2) σ σ2) → ∀ (H : Heap) (locs : List Loc), va_P D vwCl (g_W D σ2) H → va_S (g_A D s.heap.size) s.heap H locs → ∀ ls : Array Slot, lv_has ls 3 [(2, .int (nI j)), (0, .ref (ad_ D v)), (1, .int x)] → W p l e m_X1_removeName_rm s m args below meth c H locs 0 0 Q (F0 m 6 ls []) := by
    intro fuel6
    induction fuel6 with
    | zero => intro j σ2 hf; exact absurd hf (Nat.not_lt_zero _)
    | succ fuel6 ih6 =>
      intro j σ2 hf6 hj i0 i1 i2 io H locs hP hS ls hl
      refine lv_iload_n hx hb dX1_removeName_6 rfl (lv_at hl 0 rfl) ?_
      refine lv_aload_n hx hb dX1_removeName_7 rfl (lv_at hl 1 rfl) ?_
      refine g_get hx hb hts hE hown hP g_inX1 rfl (by omega) i0 2 (by decide) rfl wf_X1_18 (v := .int (nI L.length)) rfl dX1_removeName_8 ?_
      refine lv_iconst (v := nI 1) hx hb dX1_removeName_11 (by decide) ?_
      refine lv_isub hx hb dX1_removeName_12 ?_
      refine g_top (y := nI (L.length - 1)) (pk_sub (by omega)) ?_
      refine lv_icmp_ge (tgt := 58) hx hb dX1_removeName_13 (by decide) (fun h13 => ?_) (fun h13 => ?_)
      · have hb13 := g_le (a := L.length - 1) (b := j) h13 (by omega) (by omega)
        refine lv_aload_n hx hb dX1_removeName_58 rfl (lv_at hl 1 rfl) ?_
        refine lv_dup hx hb dX1_removeName_59 rfl ?_
        refine g_get hx hb hts hE hown hP g_inX1 rfl (by omega) i0 2 (by decide) rfl wf_X1_18 (v := .int (nI L.length)) rfl dX1_removeName_60 ?_
        refine lv_iconst (v := nI 1) hx hb dX1_removeName_63 (by decide) ?_
        refine lv_isub hx hb dX1_removeName_64 ?_
        refine g_top (y := nI (L.length - 1)) (pk_sub (by omega)) ?_
        refine g_put hx hb hts hE hown hAD hP hS g_inX1 tyX1 tyX1_ok nmX1 rfl (by omega) i0 2 (by decide) rfl rfl (by decide +kernel) wf_X1_18 (v := nI (L.length - 1)) (Nat.le_of_ble_eq_true rfl) dX1_removeName_65 (fun H locs hP hS => ?_)
        obtain ⟨σ_3, hσ4⟩ : ∃ z : Nat → va_E, z = va_up σ2 v (.inr (1, [.ref (ad_ D (v + 1)), .ref (ad_ D (v + 2)), .int (nI (L.length - 1))])) := ⟨_, rfl⟩
        have hP : va_P D vwCl (g_W D σ_3) H := by rw [hσ4]; exact hP
        have hc5 : σ_3 v = .inr (1, [.ref (ad_ D (v + 1)), .ref (ad_ D (v + 2)), .int (nI (L.length - 1))]) := by rw [hσ4]; exact g_ups
        have hc6 := (by rw [hσ4]; exact g_upn i1 (by omega) : σ_3 (v + 1) = .inl (g_cI D, 48, .inl (rm_ F (rk_ L x) j)))
        have hc7 := (by rw [hσ4]; exact g_upn i2 (by omega) : σ_3 (v + 2) = .inl (g_cI D, 48, .inl (rm_ G (rk_ L x) j)))
        have ho8 : g_off v (v + 2) σ σ_3 := by rw [hσ4]; exact g_off.up io (by omega) (by omega)
        have hjk : j = L.length - 1 := by omega
        subst hjk
        rw [← hQ]
        exact W.vret hx hb hr (fun t ht _ => g_fin (⟨rfl, ⟨_, _, by rw [List.length_eraseIdx_of_lt hlt]; exact hc5, hc6, hc7, rep_erase hlt hFG, by rw [List.length_eraseIdx_of_lt hlt]; omega, hvv⟩, ho8⟩) hP hS ht) hS.2.2 dX1_removeName_68 hlocks
      · have hb13 := g_nle (a := L.length - 1) (b := j) h13 (by omega) (by omega)
        refine lv_aload_n hx hb dX1_removeName_16 rfl (lv_at hl 1 rfl) ?_
        refine g_get hx hb hts hE hown hP g_inX1 rfl (by omega) i0 0 (by decide) rfl wf_X1_9 (v := .ref (ad_ D (v + 1))) rfl dX1_removeName_17 ?_
        refine lv_iload_n hx hb dX1_removeName_20 rfl (lv_at hl 0 rfl) ?_
        refine lv_aload_n hx hb dX1_removeName_21 rfl (lv_at hl 1 rfl) ?_
        refine g_get hx hb hts hE hown hP g_inX1 rfl (by omega) i0 0 (by decide) rfl wf_X1_9 (v := .ref (ad_ D (v + 1))) rfl dX1_removeName_22 ?_
        refine lv_iload_n hx hb dX1_removeName_25 rfl (lv_at hl 0 rfl) ?_
        refine lv_iconst (v := nI 1) hx hb dX1_removeName_26 (by decide) ?_
        refine lv_iadd hx hb dX1_removeName_27 ?_
        refine g_top (y := nI (j + 1)) (nI_add j 1) ?_
        refine g_callN0 (y := yX2_read) (n := 2) (As := [.ref (ad_ D (v + 1)), .int (nI (j + 1))]) (rest := [.int (nI j), .ref (ad_ D (v + 1))]) hx hb hml hown hts hE hZ hP hS hl.1 (m_X2_read l D hAD σ2 (v + 1) 48 (rm_ F (rk_ L x) j) (nI (j + 1)) (by omega) (by decide) i1) k_X1_22 rfl rfl ⟨rfl, rfl⟩ ⟨Nat.le_of_ble_eq_true rfl, Nat.le_of_ble_eq_true rfl⟩ (Nat.le_of_ble_eq_true rfl) ⟨Nat.le_of_ble_eq_true rfl, Nat.le_of_ble_eq_true rfl⟩ dX1_removeName_28 (fun v9 σ_10 H locs hq hP hS => ?_)
        obtain ⟨rfl, rfl⟩ := hq
        refine W.eq (g2 := F0 m 31 ls [.int (rd_ (rm_ F (rk_ L x) j) 48 (nI (j + 1))), .int (nI j), .ref (ad_ D (v + 1))]) rfl ?_
        refine g_top (y := F (j + 1)) ((rd_in (by omega) (by decide)).trans (rm_at (by omega))) ?_
        refine g_callN0 (y := yX2_write) (n := 3) (As := [.ref (ad_ D (v + 1)), .int (nI j), .int (F (j + 1))]) (rest := []) hx hb hml hown hts hE hZ hP hS hl.1 (m_X2_write l D hAD σ2 (v + 1) 48 (rm_ F (rk_ L x) j) (nI j) (F (j + 1)) (by omega) (by decide) i1) k_X1_43 rfl rfl ⟨rfl, rfl⟩ ⟨Nat.le_of_ble_eq_true rfl, Nat.le_of_ble_eq_true rfl⟩ (Nat.le_of_ble_eq_true rfl) ⟨Nat.le_of_ble_eq_true rfl, Nat.le_of_ble_eq_true rfl⟩ dX1_removeName_31 (fun v11 σ_12 H locs hq hP hS => ?_)
        obtain ⟨rfl, hw, hfr⟩ := hq
        refine W.eq (g2 := F0 m 34 ls []) rfl ?_
        rw [wr_in (by omega) (by decide)] at hw
        have hc13 := (hfr v (by omega)).trans i0
        have hc14 := hw
        have hc15 := (hfr (v + 2) (by omega)).trans i2
        have ho16 := g_off.one io hfr (by omega) (by omega)
        refine lv_aload_n hx hb dX1_removeName_34 rfl (lv_at hl 1 rfl) ?_
        refine g_get hx hb hts hE hown hP g_inX1 rfl (by omega) hc13 1 (by decide) rfl wf_X1_15 (v := .ref (ad_ D (v + 2))) rfl dX1_removeName_35 ?_
        refine lv_iload_n hx hb dX1_removeName_38 rfl (lv_at hl 0 rfl) ?_
        refine lv_aload_n hx hb dX1_removeName_39 rfl (lv_at hl 1 rfl) ?_
        refine g_get hx hb hts hE hown hP g_inX1 rfl (by omega) hc13 1 (by decide) rfl wf_X1_15 (v := .ref (ad_ D (v + 2))) rfl dX1_removeName_40 ?_
        refine lv_iload_n hx hb dX1_removeName_43 rfl (lv_at hl 0 rfl) ?_
        refine lv_iconst (v := nI 1) hx hb dX1_removeName_44 (by decide) ?_
        refine lv_iadd hx hb dX1_removeName_45 ?_
        refine g_top (y := nI (j + 1)) (nI_add j 1) ?_
        refine g_callN0 (y := yX2_read) (n := 2) (As := [.ref (ad_ D (v + 2)), .int (nI (j + 1))]) (rest := [.int (nI j), .ref (ad_ D (v + 2))]) hx hb hml hown hts hE hZ hP hS hl.1 (m_X2_read l D hAD σ_12 (v + 2) 48 (rm_ G (rk_ L x) j) (nI (j + 1)) (by omega) (by decide) hc15) k_X1_22 rfl rfl ⟨rfl, rfl⟩ ⟨Nat.le_of_ble_eq_true rfl, Nat.le_of_ble_eq_true rfl⟩ (Nat.le_of_ble_eq_true rfl) ⟨Nat.le_of_ble_eq_true rfl, Nat.le_of_ble_eq_true rfl⟩ dX1_removeName_46 (fun v17 σ_18 H locs hq hP hS => ?_)
        obtain ⟨rfl, rfl⟩ := hq
        refine W.eq (g2 := F0 m 49 ls [.int (rd_ (rm_ G (rk_ L x) j) 48 (nI (j + 1))), .int (nI j), .ref (ad_ D (v + 2))]) rfl ?_
        refine g_top (y := G (j + 1)) ((rd_in (by omega) (by decide)).trans (rm_at (by omega))) ?_
        refine g_callN0 (y := yX2_write) (n := 3) (As := [.ref (ad_ D (v + 2)), .int (nI j), .int (G (j + 1))]) (rest := []) hx hb hml hown hts hE hZ hP hS hl.1 (m_X2_write l D hAD σ_12 (v + 2) 48 (rm_ G (rk_ L x) j) (nI j) (G (j + 1)) (by omega) (by decide) hc15) k_X1_43 rfl rfl ⟨rfl, rfl⟩ ⟨Nat.le_of_ble_eq_true rfl, Nat.le_of_ble_eq_true rfl⟩ (Nat.le_of_ble_eq_true rfl) ⟨Nat.le_of_ble_eq_true rfl, Nat.le_of_ble_eq_true rfl⟩ dX1_removeName_49 (fun v19 σ_20 H locs hq hP hS => ?_)
        obtain ⟨rfl, hw, hfr⟩ := hq
        refine W.eq (g2 := F0 m 52 ls []) rfl ?_
        rw [wr_in (by omega) (by decide)] at hw
        have hc21 := (hfr v (by omega)).trans hc13
        have hc22 := (hfr (v + 1) (by omega)).trans hc14
        have hc23 := hw
        have ho24 := g_off.one ho16 hfr (by omega) (by omega)
        refine lv_iinc (v := nI (j + 1)) (lv' := [(2, .int (nI (j + 1))), (0, .ref (ad_ D v)), (1, .int x)]) hx hb dX1_removeName_52 hl (k := 0) rfl (g_inc j) (by decide) rfl (fun ls hl => ?_)
        refine lv_goto (tgt := 6) hx hb dX1_removeName_55 (by decide) ?_
        exact ih6 (j + 1) σ_20 (by omega) (by omega) hc21 (by rw [← rm_step (F := F) (a := rk_ L x) (b := j) (by omega)]; exact hc22) (by rw [← rm_step (F := G) (a := rk_ L x) (b := j) (by omega)]; exact hc23) ho24 _ _ hP hS ls (lv_sub hl [0, 1, 2] rfl)
  exact K6 ((L.length - (rk_ L x)) + 1) (rk_ L x) σ (Nat.lt_succ_self _) (by omega) h0 (by rw [rm_0]; exact h1) (by rw [rm_0]; exact h2) g_off.rf _ _ hP hS ls (lv_sub hl [0, 1, 2] rfl)

abbrev m_X1_setAll_rm : Room := { frames := 11, cells := 0, slots := 0, locals := 267 }
set_option maxHeartbeats 4000000 in
set_option maxRecDepth 100000 in
theorem m_X1_setAll (l : Launch) (D : va_G) (hAD : g_AD D) (σ : Nat → va_E) (v : Nat) (L : g_L) (F G : Nat → Int32) (hV : g_VF D σ v L F G) (w : Nat) (M : g_L) (F2 G2 : Nat → Int32) (hV2 : g_VF D σ w M F2 G2) (hvw : v + 2 < w ∨ w + 2 < v) (hM : ∀ j, j < M.length → fn_ M j ≠ -1) (hlen : L.length + M.length ≤ 48) : g_M l D yX1_setAll cX1_setAll 3 none m_X1_setAll_rm [.ref (ad_ D v), .ref (ad_ D w)] σ (fun v1 σ1 => v1 = none ∧ g_V D σ1 v (sa_ L M M.length) ∧ g_off v (v + 2) σ σ1) := by
  refine g_ofW [(0, .ref (ad_ D v)), (1, .ref (ad_ D w))] (by decide +kernel) (Nat.le_of_ble_eq_true rfl) rfl ?_
  intro p e s m args below meth c hx hb hr hml hown hlocks hts hE hZ hP hS hnm ls hl
  have hown : s.vm.findClass RX1 = some m.cls := hown
  generalize hQ : MQ _ _ _ _ _ _ _ = Q
  obtain ⟨h0, h1, h2, hFG, hLn, hvv⟩ := id hV
  have hvv2 := hV2.2.2.2.2.2
  have hM48 := hV2.2.2.2.2.1
  refine lv_iconst (v := nI 0) hx hb dX1_setAll_0 (by decide) ?_
  refine lv_istore_n (lv' := [(2, .int (nI 0)), (0, .ref (ad_ D v)), (1, .ref (ad_ D w))]) hx hb dX1_setAll_1 rfl hl (by decide) rfl (fun ls hl => ?_)
  have K2 : ∀ (fuel2 : Nat) (i : Nat) (σ2 : Nat → va_E) (F3 G3 : Nat → Int32), (M.length - i) < fuel2 → (i ≤ M.length) → (g_VF D σ2 v (sa_ L M i) F3 G3) → (g_VF D σ2 w M F2 G2) → (g_off v (v + 2) σ σ2) → ∀ (H : Heap) (locs : List Loc), va_P D vwCl (g_W D σ2) H → va_S (g_A D s.heap.size) s.heap H locs → ∀ ls : Array Slot, lv_has ls 3 [(2, .int (nI i)), (0, .ref (ad_ D v)), (1, .ref (ad_ D w))] → W p l e m_X1_setAll_rm s m args below meth c H locs 0 0 Q (F0 m 2 ls []) := by
    intro fuel2
    induction fuel2 with
    | zero => intro i σ2 F3 G3 hf; exact absurd hf (Nat.not_lt_zero _)
    | succ fuel2 ih2 =>
      intro i σ2 F3 G3 hf2 hi i0 i1 io H locs hP hS ls hl
      refine lv_iload_n hx hb dX1_setAll_2 rfl (lv_at hl 0 rfl) ?_
      refine lv_aload_n hx hb dX1_setAll_3 rfl (lv_at hl 2 rfl) ?_
      refine g_callV0 (y := yX1_size) (n := 0) (As := []) (rest := [.int (nI i)]) hx hb hml hown hts hE hZ hP hS hl.1 (m_X1_size l D hAD σ2 w M F2 G2 i1) k_X1_47 (ci := 1) (by omega) i1.1 rfl rfl rfl rfl rfl ⟨rfl, rfl⟩ ⟨Nat.le_of_ble_eq_true rfl, Nat.le_of_ble_eq_true rfl⟩ (Nat.le_of_ble_eq_true rfl) ⟨Nat.le_of_ble_eq_true rfl, Nat.le_of_ble_eq_true rfl⟩ dX1_setAll_4 (fun v1 σ_2 H locs hq hP hS => ?_)
      obtain ⟨rfl, rfl⟩ := hq
      refine W.eq (g2 := F0 m 7 ls [.int (nI M.length), .int (nI i)]) rfl ?_
      refine lv_icmp_ge (tgt := 30) hx hb dX1_setAll_7 (by decide) (fun h7 => ?_) (fun h7 => ?_)
      · have hb7 := g_le (a := M.length) (b := i) h7 (by omega) (by omega)
        have hi2 : i = M.length := by omega
        subst hi2
        rw [← hQ]
        exact W.vret hx hb hr (fun t ht _ => g_fin (⟨rfl, ⟨F3, G3, i0⟩, io⟩) hP hS ht) hS.2.2 dX1_setAll_30 hlocks
      · have hb7 := g_nle (a := M.length) (b := i) h7 (by omega) (by omega)
        have hsl := sa_len L M i
        have hxx := hM i (by omega)
        have hrr : fn_ (sa_ L M i) (rk_ (sa_ L M i) (fn_ M i)) = fn_ M i ∨ (sa_ L M i).length < 48 := Or.inr (by omega)
        refine lv_aload_n hx hb dX1_setAll_10 rfl (lv_at hl 1 rfl) ?_
        refine lv_aload_n hx hb dX1_setAll_11 rfl (lv_at hl 2 rfl) ?_
        refine lv_iload_n hx hb dX1_setAll_12 rfl (lv_at hl 0 rfl) ?_
        refine g_callV0 (y := yX1_nameAt) (n := 1) (As := [.int (nI i)]) (rest := [.ref (ad_ D v)]) hx hb hml hown hts hE hZ hP hS hl.1 (m_X1_nameAtN l D hAD σ2 w M F2 G2 i1 i (by omega)) k_X1_30 (ci := 1) (by omega) i1.1 rfl rfl rfl rfl rfl ⟨rfl, rfl⟩ ⟨Nat.le_of_ble_eq_true rfl, Nat.le_of_ble_eq_true rfl⟩ (Nat.le_of_ble_eq_true rfl) ⟨Nat.le_of_ble_eq_true rfl, Nat.le_of_ble_eq_true rfl⟩ dX1_setAll_13 (fun v3 σ_4 H locs hq hP hS => ?_)
        obtain ⟨rfl, rfl⟩ := hq
        refine W.eq (g2 := F0 m 16 ls [.int (fn_ M i), .ref (ad_ D v)]) rfl ?_
        refine lv_aload_n hx hb dX1_setAll_16 rfl (lv_at hl 2 rfl) ?_
        refine lv_iload_n hx hb dX1_setAll_17 rfl (lv_at hl 0 rfl) ?_
        refine g_callV0 (y := yX1_milesAt) (n := 1) (As := [.int (nI i)]) (rest := [.int (fn_ M i), .ref (ad_ D v)]) hx hb hml hown hts hE hZ hP hS hl.1 (m_X1_milesAtN l D hAD σ2 w M F2 G2 i1 i (by omega)) k_X1_33 (ci := 1) (by omega) i1.1 rfl rfl rfl rfl rfl ⟨rfl, rfl⟩ ⟨Nat.le_of_ble_eq_true rfl, Nat.le_of_ble_eq_true rfl⟩ (Nat.le_of_ble_eq_true rfl) ⟨Nat.le_of_ble_eq_true rfl, Nat.le_of_ble_eq_true rfl⟩ dX1_setAll_18 (fun v5 σ_6 H locs hq hP hS => ?_)
        obtain ⟨rfl, rfl⟩ := hq
        refine W.eq (g2 := F0 m 21 ls [.int (gn_ M i), .int (fn_ M i), .ref (ad_ D v)]) rfl ?_
        refine g_callV0 (y := yX1_set) (n := 2) (As := [.int (fn_ M i), .int (gn_ M i)]) (rest := []) hx hb hml hown hts hE hZ hP hS hl.1 (m_X1_set l D hAD σ2 v (sa_ L M i) F3 G3 i0 (fn_ M i) (gn_ M i) hxx hrr) k_X1_50 (ci := 1) (by omega) i0.1 rfl rfl rfl rfl rfl ⟨rfl, rfl⟩ ⟨Nat.le_of_ble_eq_true rfl, Nat.le_of_ble_eq_true rfl⟩ (Nat.le_of_ble_eq_true rfl) ⟨Nat.le_of_ble_eq_true rfl, Nat.le_of_ble_eq_true rfl⟩ dX1_setAll_21 (fun v7 σ_8 H locs hq hP hS => ?_)
        obtain ⟨rfl, hq2⟩ := hq
        refine W.eq (g2 := F0 m 24 ls []) rfl ?_
        obtain ⟨Fs9, Gs10, hVs11, hos12, hgs13⟩ := hq2
        have hV14 := g_VF.off i1 hos12 (by omega)
        have ho15 := g_off.tr io (g_off.wd hos12 (by omega) (by omega))
        refine lv_iinc (v := nI (i + 1)) (lv' := [(2, .int (nI (i + 1))), (0, .ref (ad_ D v)), (1, .ref (ad_ D w))]) hx hb dX1_setAll_24 hl (k := 0) rfl (g_inc i) (by decide) rfl (fun ls hl => ?_)
        refine lv_goto (tgt := 2) hx hb dX1_setAll_27 (by decide) ?_
        exact ih2 (i + 1) σ_8 Fs9 Gs10 (by omega) (by omega) hVs11 hV14 ho15 _ _ hP hS ls (lv_sub hl [0, 1, 2] rfl)
  exact K2 ((M.length - 0) + 1) 0 σ F G (Nat.lt_succ_self _) (Nat.zero_le _) hV hV2 g_off.rf _ _ hP hS ls (lv_sub hl [0, 1, 2] rfl)

abbrev m_X1_changeBits_rm : Room := { frames := 11, cells := 0, slots := 0, locals := 267 }
set_option maxHeartbeats 4000000 in
set_option maxRecDepth 100000 in
theorem m_X1_changeBits (l : Launch) (D : va_G) (hAD : g_AD D) (σ : Nat → va_E) (v : Nat) (L : g_L) (F G : Nat → Int32) (hV : g_VF D σ v L F G) (b : Int32) (hb9 : ∀ j, j < L.length → fn_ L j ^^^ b ≠ -1) : g_M l D yX1_changeBits cX1_changeBits 4 none m_X1_changeBits_rm [.ref (ad_ D v), .int b] σ (fun v1 σ1 => v1 = none ∧ g_V D σ1 v (cb_ L b L.length) ∧ g_off v (v + 2) σ σ1) := by
  refine g_ofW [(0, .ref (ad_ D v)), (1, .int b)] (by decide +kernel) (Nat.le_of_ble_eq_true rfl) rfl ?_
  intro p e s m args below meth c hx hb hr hml hown hlocks hts hE hZ hP hS hnm ls hl
  have hown : s.vm.findClass RX1 = some m.cls := hown
  generalize hQ : MQ _ _ _ _ _ _ _ = Q
  obtain ⟨h0, h1, h2, hFG, hLn, hvv⟩ := id hV
  refine lv_aload_n hx hb dX1_changeBits_0 rfl (lv_at hl 0 rfl) ?_
  refine g_get hx hb hts hE hown hP g_inX1 rfl (by omega) h0 2 (by decide) rfl wf_X1_18 (v := .int (nI L.length)) rfl dX1_changeBits_1 ?_
  refine lv_istore_n (lv' := [(2, .int (nI L.length)), (0, .ref (ad_ D v)), (1, .int b)]) hx hb dX1_changeBits_4 rfl hl (by decide) rfl (fun ls hl => ?_)
  refine lv_aload_n hx hb dX1_changeBits_5 rfl (lv_at hl 1 rfl) ?_
  refine lv_iconst (v := nI 0) hx hb dX1_changeBits_6 (by decide) ?_
  refine g_callV0 (y := yX1_keepFirst) (n := 1) (As := [.int (nI 0)]) (rest := []) hx hb hml hown hts hE hZ hP hS hl.1 (m_X1_keepFirst l D hAD σ v L F G hV 0 (by omega)) k_X1_54 (ci := 1) (by omega) hV.1 rfl rfl rfl rfl rfl ⟨rfl, rfl⟩ ⟨Nat.le_of_ble_eq_true rfl, Nat.le_of_ble_eq_true rfl⟩ (Nat.le_of_ble_eq_true rfl) ⟨Nat.le_of_ble_eq_true rfl, Nat.le_of_ble_eq_true rfl⟩ dX1_changeBits_7 (fun v1 σ_2 H locs hq hP hS => ?_)
  obtain ⟨rfl, hq2⟩ := hq
  refine W.eq (g2 := F0 m 10 ls []) rfl ?_
  obtain ⟨hVk3, hok4⟩ := hq2
  have hok0 := hok4
  refine lv_iconst (v := nI 0) hx hb dX1_changeBits_10 (by decide) ?_
  refine lv_istore_n (lv' := [(3, .int (nI 0)), (2, .int (nI L.length)), (0, .ref (ad_ D v)), (1, .int b)]) hx hb dX1_changeBits_11 rfl hl (by decide) rfl (fun ls hl => ?_)
  have K12 : ∀ (fuel12 : Nat) (i : Nat) (σ2 : Nat → va_E) (F3 G3 : Nat → Int32), (L.length - i) < fuel12 → (i ≤ L.length) → (g_VF D σ2 v (cb_ L b i) F3 G3) → (∀ j, i ≤ j → j < L.length → F3 j = fn_ L j ∧ G3 j = gn_ L j) → (g_off v (v + 2) σ σ2) → ∀ (H : Heap) (locs : List Loc), va_P D vwCl (g_W D σ2) H → va_S (g_A D s.heap.size) s.heap H locs → ∀ ls : Array Slot, lv_has ls 4 [(3, .int (nI i)), (2, .int (nI L.length)), (0, .ref (ad_ D v)), (1, .int b)] → W p l e m_X1_changeBits_rm s m args below meth c H locs 0 0 Q (F0 m 12 ls []) := by
    intro fuel12
    induction fuel12 with
    | zero => intro i σ2 F3 G3 hf; exact absurd hf (Nat.not_lt_zero _)
    | succ fuel12 ih12 =>
      intro i σ2 F3 G3 hf12 hi i0 ig io H locs hP hS ls hl
      have hcl := cb_len L b i
      refine lv_iload_n hx hb dX1_changeBits_12 rfl (lv_at hl 0 rfl) ?_
      refine lv_iload_n hx hb dX1_changeBits_13 rfl (lv_at hl 1 rfl) ?_
      refine lv_icmp_ge (tgt := 45) hx hb dX1_changeBits_14 (by decide) (fun h14 => ?_) (fun h14 => ?_)
      · have hb14 := g_le (a := L.length) (b := i) h14 (by omega) (by omega)
        have hi2 : i = L.length := by omega
        subst hi2
        rw [← hQ]
        exact W.vret hx hb hr (fun t ht _ => g_fin (⟨rfl, ⟨F3, G3, i0⟩, io⟩) hP hS ht) hS.2.2 dX1_changeBits_45 hlocks
      · have hb14 := g_nle (a := L.length) (b := i) h14 (by omega) (by omega)
        have hxx := hb9 i (by omega)
        have hrr : fn_ (cb_ L b i) (rk_ (cb_ L b i) (fn_ L i ^^^ b)) = fn_ L i ^^^ b ∨ (cb_ L b i).length < 48 := Or.inr (by omega)
        refine lv_aload_n hx hb dX1_changeBits_17 rfl (lv_at hl 2 rfl) ?_
        refine lv_aload_n hx hb dX1_changeBits_18 rfl (lv_at hl 2 rfl) ?_
        refine g_get hx hb hts hE hown hP g_inX1 rfl (by omega) i0.1 0 (by decide) rfl wf_X1_9 (v := .ref (ad_ D (v + 1))) rfl dX1_changeBits_19 ?_
        refine lv_iload_n hx hb dX1_changeBits_22 rfl (lv_at hl 0 rfl) ?_
        refine g_callN0 (y := yX2_read) (n := 2) (As := [.ref (ad_ D (v + 1)), .int (nI i)]) (rest := [.ref (ad_ D v)]) hx hb hml hown hts hE hZ hP hS hl.1 (m_X2_read l D hAD σ2 (v + 1) 48 (F3) (nI i) (by omega) (by decide) i0.2.1) k_X1_22 rfl rfl ⟨rfl, rfl⟩ ⟨Nat.le_of_ble_eq_true rfl, Nat.le_of_ble_eq_true rfl⟩ (Nat.le_of_ble_eq_true rfl) ⟨Nat.le_of_ble_eq_true rfl, Nat.le_of_ble_eq_true rfl⟩ dX1_changeBits_23 (fun v5 σ_6 H locs hq hP hS => ?_)
        obtain ⟨rfl, rfl⟩ := hq
        refine W.eq (g2 := F0 m 26 ls [.int (rd_ (F3) 48 (nI i)), .ref (ad_ D v)]) rfl ?_
        refine g_top (y := fn_ L i) ((rd_in (by omega) (by decide)).trans (ig i (Nat.le_refl _) (by omega)).1) ?_
        refine lv_iload_n hx hb dX1_changeBits_26 rfl (lv_at hl 3 rfl) ?_
        refine lv_ixor hx hb dX1_changeBits_27 ?_
        refine lv_aload_n hx hb dX1_changeBits_28 rfl (lv_at hl 2 rfl) ?_
        refine g_get hx hb hts hE hown hP g_inX1 rfl (by omega) i0.1 1 (by decide) rfl wf_X1_15 (v := .ref (ad_ D (v + 2))) rfl dX1_changeBits_29 ?_
        refine lv_iload_n hx hb dX1_changeBits_32 rfl (lv_at hl 0 rfl) ?_
        refine g_callN0 (y := yX2_read) (n := 2) (As := [.ref (ad_ D (v + 2)), .int (nI i)]) (rest := [.int ((fn_ L i) ^^^ b), .ref (ad_ D v)]) hx hb hml hown hts hE hZ hP hS hl.1 (m_X2_read l D hAD σ2 (v + 2) 48 (G3) (nI i) (by omega) (by decide) i0.2.2.1) k_X1_22 rfl rfl ⟨rfl, rfl⟩ ⟨Nat.le_of_ble_eq_true rfl, Nat.le_of_ble_eq_true rfl⟩ (Nat.le_of_ble_eq_true rfl) ⟨Nat.le_of_ble_eq_true rfl, Nat.le_of_ble_eq_true rfl⟩ dX1_changeBits_33 (fun v7 σ_8 H locs hq hP hS => ?_)
        obtain ⟨rfl, rfl⟩ := hq
        refine W.eq (g2 := F0 m 36 ls [.int (rd_ (G3) 48 (nI i)), .int ((fn_ L i) ^^^ b), .ref (ad_ D v)]) rfl ?_
        refine g_top (y := gn_ L i) ((rd_in (by omega) (by decide)).trans (ig i (Nat.le_refl _) (by omega)).2) ?_
        refine g_callV0 (y := yX1_set) (n := 2) (As := [.int ((fn_ L i) ^^^ b), .int (gn_ L i)]) (rest := []) hx hb hml hown hts hE hZ hP hS hl.1 (m_X1_set l D hAD σ2 v (cb_ L b i) F3 G3 i0 ((fn_ L i) ^^^ b) (gn_ L i) hxx hrr) k_X1_50 (ci := 1) (by omega) i0.1 rfl rfl rfl rfl rfl ⟨rfl, rfl⟩ ⟨Nat.le_of_ble_eq_true rfl, Nat.le_of_ble_eq_true rfl⟩ (Nat.le_of_ble_eq_true rfl) ⟨Nat.le_of_ble_eq_true rfl, Nat.le_of_ble_eq_true rfl⟩ dX1_changeBits_36 (fun v9 σ_10 H locs hq hP hS => ?_)
        obtain ⟨rfl, hq2⟩ := hq
        refine W.eq (g2 := F0 m 39 ls []) rfl ?_
        obtain ⟨Fs11, Gs12, hVs13, hos14, hgs15⟩ := hq2
        have ho16 := g_off.tr io (g_off.wd hos14 (by omega) (by omega))
        refine lv_iinc (v := nI (i + 1)) (lv' := [(3, .int (nI (i + 1))), (2, .int (nI L.length)), (0, .ref (ad_ D v)), (1, .int b)]) hx hb dX1_changeBits_39 hl (k := 0) rfl (g_inc i) (by decide) rfl (fun ls hl => ?_)
        refine lv_goto (tgt := 12) hx hb dX1_changeBits_42 (by decide) ?_
        exact ih12 (i + 1) σ_10 Fs11 Gs12 (by omega) (by omega) hVs13 (fun j hj1 hj2 => by have q9 := hgs15 j (by omega); rw [q9.1, q9.2]; exact ig j (by omega) hj2) ho16 _ _ hP hS ls (lv_sub hl [0, 1, 2, 3] rfl)
  exact K12 ((L.length - 0) + 1) 0 σ_2 F G (Nat.lt_succ_self _) (Nat.zero_le _) hVk3 (fun j _ hj => hFG j hj) hok0 _ _ hP hS ls (lv_sub hl [0, 1, 2, 3] rfl)

abbrev m_X1_addedMiles_rm : Room := { frames := 10, cells := 0, slots := 0, locals := 242 }
set_option maxHeartbeats 4000000 in
set_option maxRecDepth 100000 in
theorem m_X1_addedMiles (l : Launch) (D : va_G) (hAD : g_AD D) (σ : Nat → va_E) (v : Nat) (L : g_L) (F G : Nat → Int32) (hV : g_VF D σ v L F G) (a t : Nat) (ht48 : a < 2 ^ 30 ∧ t ≤ 48) : g_M l D yX1_addedMiles cX1_addedMiles 5 (some .int) m_X1_addedMiles_rm [.ref (ad_ D v), .int (nI a), .int (nI t)] σ (fun v1 σ1 => v1 = some (.int (sm_ L a (t - a))) ∧ σ = σ1) := by
  refine g_ofW [(0, .ref (ad_ D v)), (1, .int (nI a)), (2, .int (nI t))] (by decide +kernel) (Nat.le_of_ble_eq_true rfl) rfl ?_
  intro p e s m args below meth c hx hb hr hml hown hlocks hts hE hZ hP hS hnm ls hl
  have hown : s.vm.findClass RX1 = some m.cls := hown
  generalize hQ : MQ _ _ _ _ _ _ _ = Q
  obtain ⟨h0, h1, h2, hFG, hLn, hvv⟩ := id hV
  refine lv_iconst (v := nI 0) hx hb dX1_addedMiles_0 (by decide) ?_
  refine lv_istore_n (lv' := [(3, .int (nI 0)), (0, .ref (ad_ D v)), (1, .int (nI a)), (2, .int (nI t))]) hx hb dX1_addedMiles_1 rfl hl (by decide) rfl (fun ls hl => ?_)
  refine lv_iload_n hx hb dX1_addedMiles_2 rfl (lv_at hl 2 rfl) ?_
  refine lv_istore (lv' := [(4, .int (nI a)), (3, .int (nI 0)), (0, .ref (ad_ D v)), (1, .int (nI a)), (2, .int (nI t))]) hx hb dX1_addedMiles_3 hl (by decide) rfl (fun ls hl => ?_)
  have K5 : ∀ (fuel5 : Nat) (c9 : Nat), (t - (a + c9)) < fuel5 → (a + c9 ≤ t ∨ c9 = 0) → ∀ (H : Heap) (locs : List Loc), va_P D vwCl (g_W D σ) H → va_S (g_A D s.heap.size) s.heap H locs → ∀ ls : Array Slot, lv_has ls 5 [(4, .int (nI (a + c9))), (3, .int (sm_ L a c9)), (0, .ref (ad_ D v)), (1, .int (nI a)), (2, .int (nI t))] → W p l e m_X1_addedMiles_rm s m args below meth c H locs 0 0 Q (F0 m 5 ls []) := by
    intro fuel5
    induction fuel5 with
    | zero => intro c9 hf; exact absurd hf (Nat.not_lt_zero _)
    | succ fuel5 ih5 =>
      intro c9 hf5 hi H locs hP hS ls hl
      refine lv_iload hx hb dX1_addedMiles_5 (lv_at hl 0 rfl) ?_
      refine lv_iload_n hx hb dX1_addedMiles_7 rfl (lv_at hl 4 rfl) ?_
      refine lv_icmp_ge (tgt := 26) hx hb dX1_addedMiles_8 (by decide) (fun h8 => ?_) (fun h8 => ?_)
      · have hb8 := g_le (a := t) (b := a + c9) h8 (by omega) (by omega)
        have hi2 : c9 = t - a := by omega
        refine lv_iload_n hx hb dX1_addedMiles_26 rfl (lv_at hl 1 rfl) ?_
        rw [← hQ]
        exact W.iret (v := sm_ L a c9) hx hb hr (fun t ht _ => g_fin (⟨by rw [hi2], rfl⟩) hP hS ht) hS.2.2 dX1_addedMiles_27 hlocks
      · have hb8 := g_nle (a := t) (b := a + c9) h8 (by omega) (by omega)
        refine lv_iload_n hx hb dX1_addedMiles_11 rfl (lv_at hl 1 rfl) ?_
        refine lv_aload_n hx hb dX1_addedMiles_12 rfl (lv_at hl 2 rfl) ?_
        refine lv_iload hx hb dX1_addedMiles_13 (lv_at hl 0 rfl) ?_
        refine g_callV0 (y := yX1_milesAt) (n := 1) (As := [.int (nI (a + c9))]) (rest := [.int (sm_ L a c9)]) hx hb hml hown hts hE hZ hP hS hl.1 (m_X1_milesAtN l D hAD σ v L F G hV (a + c9) (by omega)) k_X1_33 (ci := 1) (by omega) hV.1 rfl rfl rfl rfl rfl ⟨rfl, rfl⟩ ⟨Nat.le_of_ble_eq_true rfl, Nat.le_of_ble_eq_true rfl⟩ (Nat.le_of_ble_eq_true rfl) ⟨Nat.le_of_ble_eq_true rfl, Nat.le_of_ble_eq_true rfl⟩ dX1_addedMiles_15 (fun v1 σ_2 H locs hq hP hS => ?_)
        obtain ⟨rfl, rfl⟩ := hq
        refine W.eq (g2 := F0 m 18 ls [.int (gn_ L (a + c9)), .int (sm_ L a c9)]) rfl ?_
        refine lv_iadd hx hb dX1_addedMiles_18 ?_
        refine lv_istore_n (lv' := [(3, .int ((sm_ L a c9) + (gn_ L (a + c9)))), (4, .int (nI (a + c9))), (0, .ref (ad_ D v)), (1, .int (nI a)), (2, .int (nI t))]) hx hb dX1_addedMiles_19 rfl hl (by decide) rfl (fun ls hl => ?_)
        refine lv_iinc (v := nI (a + c9 + 1)) (lv' := [(4, .int (nI (a + c9 + 1))), (3, .int ((sm_ L a c9) + (gn_ L (a + c9)))), (0, .ref (ad_ D v)), (1, .int (nI a)), (2, .int (nI t))]) hx hb dX1_addedMiles_20 hl (k := 1) rfl (g_inc (a + c9)) (by decide) rfl (fun ls hl => ?_)
        refine lv_goto (tgt := 5) hx hb dX1_addedMiles_23 (by decide) ?_
        exact ih5 (c9 + 1) (by omega) (Or.inl (by omega)) _ _ hP hS ls (lv_sub hl [0, 1, 2, 3, 4] rfl)
  exact K5 ((t - (a + 0)) + 1) 0 (Nat.lt_succ_self _) (Or.inr rfl) _ _ hP hS ls (lv_sub hl [0, 1, 2, 3, 4] rfl)

abbrev m_X1_mostMiles_rm : Room := { frames := 10, cells := 0, slots := 0, locals := 242 }
set_option maxHeartbeats 4000000 in
set_option maxRecDepth 100000 in
theorem m_X1_mostMiles (l : Launch) (D : va_G) (hAD : g_AD D) (σ : Nat → va_E) (v : Nat) (L : g_L) (F G : Nat → Int32) (hV : g_VF D σ v L F G) (a t : Nat) (ht48 : a < 2 ^ 30 ∧ t ≤ 48) : g_M l D yX1_mostMiles cX1_mostMiles 5 (some .int) m_X1_mostMiles_rm [.ref (ad_ D v), .int (nI a), .int (nI t)] σ (fun v1 σ1 => v1 = some (.int (mm_ L a (t - a))) ∧ σ = σ1) := by
  refine g_ofW [(0, .ref (ad_ D v)), (1, .int (nI a)), (2, .int (nI t))] (by decide +kernel) (Nat.le_of_ble_eq_true rfl) rfl ?_
  intro p e s m args below meth c hx hb hr hml hown hlocks hts hE hZ hP hS hnm ls hl
  have hown : s.vm.findClass RX1 = some m.cls := hown
  generalize hQ : MQ _ _ _ _ _ _ _ = Q
  obtain ⟨h0, h1, h2, hFG, hLn, hvv⟩ := id hV
  refine lv_iconst (v := (-1)) hx hb dX1_mostMiles_0 (by decide) ?_
  refine lv_istore_n (lv' := [(3, .int ((-1))), (0, .ref (ad_ D v)), (1, .int (nI a)), (2, .int (nI t))]) hx hb dX1_mostMiles_1 rfl hl (by decide) rfl (fun ls hl => ?_)
  refine lv_iload_n hx hb dX1_mostMiles_2 rfl (lv_at hl 2 rfl) ?_
  refine lv_istore (lv' := [(4, .int (nI a)), (3, .int ((-1))), (0, .ref (ad_ D v)), (1, .int (nI a)), (2, .int (nI t))]) hx hb dX1_mostMiles_3 hl (by decide) rfl (fun ls hl => ?_)
  have K5 : ∀ (fuel5 : Nat) (c9 : Nat), (t - (a + c9)) < fuel5 → (a + c9 ≤ t ∨ c9 = 0) → ∀ (H : Heap) (locs : List Loc), va_P D vwCl (g_W D σ) H → va_S (g_A D s.heap.size) s.heap H locs → ∀ ls : Array Slot, lv_has ls 5 [(4, .int (nI (a + c9))), (3, .int (mm_ L a c9)), (0, .ref (ad_ D v)), (1, .int (nI a)), (2, .int (nI t))] → W p l e m_X1_mostMiles_rm s m args below meth c H locs 0 0 Q (F0 m 5 ls []) := by
    intro fuel5
    induction fuel5 with
    | zero => intro c9 hf; exact absurd hf (Nat.not_lt_zero _)
    | succ fuel5 ih5 =>
      intro c9 hf5 hi H locs hP hS ls hl
      refine lv_iload hx hb dX1_mostMiles_5 (lv_at hl 0 rfl) ?_
      refine lv_iload_n hx hb dX1_mostMiles_7 rfl (lv_at hl 4 rfl) ?_
      refine lv_icmp_ge (tgt := 28) hx hb dX1_mostMiles_8 (by decide) (fun h8 => ?_) (fun h8 => ?_)
      · have hb8 := g_le (a := t) (b := a + c9) h8 (by omega) (by omega)
        have hi2 : c9 = t - a := by omega
        refine lv_iload_n hx hb dX1_mostMiles_28 rfl (lv_at hl 1 rfl) ?_
        rw [← hQ]
        exact W.iret (v := mm_ L a c9) hx hb hr (fun t ht _ => g_fin (⟨by rw [hi2], rfl⟩) hP hS ht) hS.2.2 dX1_mostMiles_29 hlocks
      · have hb8 := g_nle (a := t) (b := a + c9) h8 (by omega) (by omega)
        refine lv_iload_n hx hb dX1_mostMiles_11 rfl (lv_at hl 1 rfl) ?_
        refine lv_aload_n hx hb dX1_mostMiles_12 rfl (lv_at hl 2 rfl) ?_
        refine lv_iload hx hb dX1_mostMiles_13 (lv_at hl 0 rfl) ?_
        refine g_callV0 (y := yX1_milesAt) (n := 1) (As := [.int (nI (a + c9))]) (rest := [.int (mm_ L a c9)]) hx hb hml hown hts hE hZ hP hS hl.1 (m_X1_milesAtN l D hAD σ v L F G hV (a + c9) (by omega)) k_X1_33 (ci := 1) (by omega) hV.1 rfl rfl rfl rfl rfl ⟨rfl, rfl⟩ ⟨Nat.le_of_ble_eq_true rfl, Nat.le_of_ble_eq_true rfl⟩ (Nat.le_of_ble_eq_true rfl) ⟨Nat.le_of_ble_eq_true rfl, Nat.le_of_ble_eq_true rfl⟩ dX1_mostMiles_15 (fun v1 σ_2 H locs hq hP hS => ?_)
        obtain ⟨rfl, rfl⟩ := hq
        refine W.eq (g2 := F0 m 18 ls [.int (gn_ L (a + c9)), .int (mm_ L a c9)]) rfl ?_
        refine g_mmax hx hb (hml.trans hl.1.symm) hown hts k_X1_57 k_max ⟨Nat.le_of_ble_eq_true rfl, Nat.le_of_ble_eq_true rfl, by omega, by omega⟩ dX1_mostMiles_18 ?_
        refine lv_istore_n (lv' := [(3, .int (if mm_ L a c9 < gn_ L (a + c9) then gn_ L (a + c9) else mm_ L a c9)), (4, .int (nI (a + c9))), (0, .ref (ad_ D v)), (1, .int (nI a)), (2, .int (nI t))]) hx hb dX1_mostMiles_21 rfl hl (by decide) rfl (fun ls hl => ?_)
        refine lv_iinc (v := nI (a + c9 + 1)) (lv' := [(4, .int (nI (a + c9 + 1))), (3, .int (if mm_ L a c9 < gn_ L (a + c9) then gn_ L (a + c9) else mm_ L a c9)), (0, .ref (ad_ D v)), (1, .int (nI a)), (2, .int (nI t))]) hx hb dX1_mostMiles_22 hl (k := 1) rfl (g_inc (a + c9)) (by decide) rfl (fun ls hl => ?_)
        refine lv_goto (tgt := 5) hx hb dX1_mostMiles_25 (by decide) ?_
        exact ih5 (c9 + 1) (by omega) (Or.inl (by omega)) _ _ hP hS ls (lv_sub hl [0, 1, 2, 3, 4] rfl)
  exact K5 ((t - (a + 0)) + 1) 0 (Nat.lt_succ_self _) (Or.inr rfl) _ _ hP hS ls (lv_sub hl [0, 1, 2, 3, 4] rfl)

abbrev m_X1_sharedBits_rm : Room := { frames := 10, cells := 0, slots := 0, locals := 242 }
set_option maxHeartbeats 4000000 in
set_option maxRecDepth 100000 in
theorem m_X1_sharedBits (l : Launch) (D : va_G) (hAD : g_AD D) (σ : Nat → va_E) (v : Nat) (L : g_L) (F G : Nat → Int32) (hV : g_VF D σ v L F G) (a t : Nat) (ht48 : a < 2 ^ 30 ∧ t ≤ 48) : g_M l D yX1_sharedBits cX1_sharedBits 3 (some .int) m_X1_sharedBits_rm [.ref (ad_ D v), .int (nI a), .int (nI t)] σ (fun v1 σ1 => v1 = some (.int (hs_ L a t)) ∧ σ = σ1) := by
  refine g_ofW [(0, .ref (ad_ D v)), (1, .int (nI a)), (2, .int (nI t))] (by decide +kernel) (Nat.le_of_ble_eq_true rfl) rfl ?_
  intro p e s m args below meth c hx hb hr hml hown hlocks hts hE hZ hP hS hnm ls hl
  have hown : s.vm.findClass RX1 = some m.cls := hown
  generalize hQ : MQ _ _ _ _ _ _ _ = Q
  obtain ⟨h0, h1, h2, hFG, hLn, hvv⟩ := id hV
  refine lv_iload_n hx hb dX1_sharedBits_0 rfl (lv_at hl 1 rfl) ?_
  refine lv_iload_n hx hb dX1_sharedBits_1 rfl (lv_at hl 2 rfl) ?_
  refine lv_icmp_lt (tgt := 7) hx hb dX1_sharedBits_2 (by decide) (fun h2 => ?_) (fun h2 => ?_)
  · have hb2 := g_lt (a := a) (b := t) h2 (by omega) (by omega)
    refine lv_bipush (v := nI 15) hx hb dX1_sharedBits_7 (by decide) ?_
    refine lv_aload_n hx hb dX1_sharedBits_9 rfl (lv_at hl 0 rfl) ?_
    refine lv_iload_n hx hb dX1_sharedBits_10 rfl (lv_at hl 1 rfl) ?_
    refine g_callV0 (y := yX1_nameAt) (n := 1) (As := [.int (nI a)]) (rest := [.int (nI 15)]) hx hb hml hown hts hE hZ hP hS hl.1 (m_X1_nameAtN l D hAD σ v L F G hV a (by omega)) k_X1_30 (ci := 1) (by omega) hV.1 rfl rfl rfl rfl rfl ⟨rfl, rfl⟩ ⟨Nat.le_of_ble_eq_true rfl, Nat.le_of_ble_eq_true rfl⟩ (Nat.le_of_ble_eq_true rfl) ⟨Nat.le_of_ble_eq_true rfl, Nat.le_of_ble_eq_true rfl⟩ dX1_sharedBits_11 (fun v1 σ_2 H locs hq hP hS => ?_)
    obtain ⟨rfl, rfl⟩ := hq
    refine W.eq (g2 := F0 m 14 ls [.int (fn_ L a), .int (nI 15)]) rfl ?_
    refine lv_aload_n hx hb dX1_sharedBits_14 rfl (lv_at hl 0 rfl) ?_
    refine lv_iload_n hx hb dX1_sharedBits_15 rfl (lv_at hl 2 rfl) ?_
    refine lv_iconst (v := nI 1) hx hb dX1_sharedBits_16 (by decide) ?_
    refine lv_isub hx hb dX1_sharedBits_17 ?_
    refine g_top (y := nI (t - 1)) (pk_sub (by omega)) ?_
    refine g_callV0 (y := yX1_nameAt) (n := 1) (As := [.int (nI (t - 1))]) (rest := [.int (fn_ L a), .int (nI 15)]) hx hb hml hown hts hE hZ hP hS hl.1 (m_X1_nameAtN l D hAD σ v L F G hV (t - 1) (by omega)) k_X1_30 (ci := 1) (by omega) hV.1 rfl rfl rfl rfl rfl ⟨rfl, rfl⟩ ⟨Nat.le_of_ble_eq_true rfl, Nat.le_of_ble_eq_true rfl⟩ (Nat.le_of_ble_eq_true rfl) ⟨Nat.le_of_ble_eq_true rfl, Nat.le_of_ble_eq_true rfl⟩ dX1_sharedBits_18 (fun v3 σ_4 H locs hq hP hS => ?_)
    obtain ⟨rfl, rfl⟩ := hq
    refine W.eq (g2 := F0 m 21 ls [.int (fn_ L (t - 1)), .int (fn_ L a), .int (nI 15)]) rfl ?_
    refine g_callN0 (y := yX2_firstUnlikeBit) (n := 2) (As := [.int (fn_ L a), .int (fn_ L (t - 1))]) (rest := [.int (nI 15)]) hx hb hml hown hts hE hZ hP hS hl.1 (m_X2_firstUnlikeBit l D hAD σ (fn_ L a) (fn_ L (t - 1))) k_X1_63 rfl rfl ⟨rfl, rfl⟩ ⟨Nat.le_of_ble_eq_true rfl, Nat.le_of_ble_eq_true rfl⟩ (Nat.le_of_ble_eq_true rfl) ⟨Nat.le_of_ble_eq_true rfl, Nat.le_of_ble_eq_true rfl⟩ dX1_sharedBits_21 (fun v5 σ_6 H locs hq hP hS => ?_)
    obtain ⟨rfl, rfl⟩ := hq
    refine W.eq (g2 := F0 m 24 ls [.int (fub_ (fn_ L a) (fn_ L (t - 1))), .int (nI 15)]) rfl ?_
    refine lv_isub hx hb dX1_sharedBits_24 ?_
    rw [← hQ]
    exact W.iret (v := (nI 15) - (fub_ (fn_ L a) (fn_ L (t - 1)))) hx hb hr (fun t ht _ => g_fin (⟨by first | rw [hs_, if_pos hb2] | rw [hs_, if_neg (by omega)]; rfl, rfl⟩) hP hS ht) hS.2.2 dX1_sharedBits_25 hlocks
  · have hb2 := g_nlt (a := a) (b := t) h2 (by omega) (by omega)
    refine lv_iconst (v := nI 0) hx hb dX1_sharedBits_5 (by decide) ?_
    rw [← hQ]
    exact W.iret (v := nI 0) hx hb hr (fun t ht _ => g_fin (⟨by first | rw [hs_, if_pos hb2] | rw [hs_, if_neg (by omega)]; rfl, rfl⟩) hP hS ht) hS.2.2 dX1_sharedBits_6 hlocks

abbrev m_X1_nearest_rm : Room := { frames := 10, cells := 0, slots := 0, locals := 242 }
set_option maxHeartbeats 4000000 in
set_option maxRecDepth 100000 in
theorem m_X1_nearest (l : Launch) (D : va_G) (hAD : g_AD D) (σ : Nat → va_E) (v : Nat) (L : g_L) (F G : Nat → Int32) (hV : g_VF D σ v L F G) (x : Int32)  : g_M l D yX1_nearest cX1_nearest 4 (some .int) m_X1_nearest_rm [.ref (ad_ D v), .int x] σ (fun v1 σ1 => v1 = some (.int (ne_ L x L.length)) ∧ σ = σ1) := by
  refine g_ofW [(0, .ref (ad_ D v)), (1, .int x)] (by decide +kernel) (Nat.le_of_ble_eq_true rfl) rfl ?_
  intro p e s m args below meth c hx hb hr hml hown hlocks hts hE hZ hP hS hnm ls hl
  have hown : s.vm.findClass RX1 = some m.cls := hown
  generalize hQ : MQ _ _ _ _ _ _ _ = Q
  obtain ⟨h0, h1, h2, hFG, hLn, hvv⟩ := id hV
  refine lv_iconst (v := (-1)) hx hb dX1_nearest_0 (by decide) ?_
  refine lv_istore_n (lv' := [(2, .int ((-1))), (0, .ref (ad_ D v)), (1, .int x)]) hx hb dX1_nearest_1 rfl hl (by decide) rfl (fun ls hl => ?_)
  refine lv_iconst (v := nI 0) hx hb dX1_nearest_2 (by decide) ?_
  refine lv_istore_n (lv' := [(3, .int (nI 0)), (2, .int ((-1))), (0, .ref (ad_ D v)), (1, .int x)]) hx hb dX1_nearest_3 rfl hl (by decide) rfl (fun ls hl => ?_)
  have K4 : ∀ (fuel4 : Nat) (i : Nat), (L.length - i) < fuel4 → (i ≤ L.length) → ∀ (H : Heap) (locs : List Loc), va_P D vwCl (g_W D σ) H → va_S (g_A D s.heap.size) s.heap H locs → ∀ ls : Array Slot, lv_has ls 4 [(3, .int (nI i)), (2, .int (ne_ L x i)), (0, .ref (ad_ D v)), (1, .int x)] → W p l e m_X1_nearest_rm s m args below meth c H locs 0 0 Q (F0 m 4 ls []) := by
    intro fuel4
    induction fuel4 with
    | zero => intro i hf; exact absurd hf (Nat.not_lt_zero _)
    | succ fuel4 ih4 =>
      intro i hf4 hi H locs hP hS ls hl
      refine lv_iload_n hx hb dX1_nearest_4 rfl (lv_at hl 0 rfl) ?_
      refine lv_aload_n hx hb dX1_nearest_5 rfl (lv_at hl 2 rfl) ?_
      refine g_get hx hb hts hE hown hP g_inX1 rfl (by omega) h0 2 (by decide) rfl wf_X1_18 (v := .int (nI L.length)) rfl dX1_nearest_6 ?_
      refine lv_icmp_ge (tgt := 42) hx hb dX1_nearest_9 (by decide) (fun h9 => ?_) (fun h9 => ?_)
      · have hb9 := g_le (a := L.length) (b := i) h9 (by omega) (by omega)
        have hi2 : i = L.length := by omega
        refine lv_iload_n hx hb dX1_nearest_42 rfl (lv_at hl 1 rfl) ?_
        rw [← hQ]
        exact W.iret (v := ne_ L x i) hx hb hr (fun t ht _ => g_fin (⟨by rw [hi2], rfl⟩) hP hS ht) hS.2.2 dX1_nearest_43 hlocks
      · have hb9 := g_nle (a := L.length) (b := i) h9 (by omega) (by omega)
        refine lv_iload_n hx hb dX1_nearest_12 rfl (lv_at hl 1 rfl) ?_
        refine lv_iconst (v := (-1)) hx hb dX1_nearest_13 (by decide) ?_
        refine lv_icmp_eq (tgt := 30) hx hb dX1_nearest_14 (by decide) (fun h14 => ?_) (fun h14 => ?_)
        · refine lv_aload_n hx hb dX1_nearest_30 rfl (lv_at hl 2 rfl) ?_
          refine lv_iload_n hx hb dX1_nearest_31 rfl (lv_at hl 0 rfl) ?_
          refine g_callV0 (y := yX1_nameAt) (n := 1) (As := [.int (nI i)]) (rest := []) hx hb hml hown hts hE hZ hP hS hl.1 (m_X1_nameAtN l D hAD σ v L F G hV i (by omega)) k_X1_30 (ci := 1) (by omega) hV.1 rfl rfl rfl rfl rfl ⟨rfl, rfl⟩ ⟨Nat.le_of_ble_eq_true rfl, Nat.le_of_ble_eq_true rfl⟩ (Nat.le_of_ble_eq_true rfl) ⟨Nat.le_of_ble_eq_true rfl, Nat.le_of_ble_eq_true rfl⟩ dX1_nearest_32 (fun v1 σ_2 H locs hq hP hS => ?_)
          obtain ⟨rfl, rfl⟩ := hq
          refine W.eq (g2 := F0 m 35 ls [.int (fn_ L i)]) rfl ?_
          refine lv_istore_n (lv' := [(2, .int (fn_ L i)), (3, .int (nI i)), (0, .ref (ad_ D v)), (1, .int x)]) hx hb dX1_nearest_35 rfl hl (by decide) rfl (fun ls hl => ?_)
          have hne : fn_ L i = ne_ L x (i + 1) := (by rw [show ne_ L x (i + 1) = if ne_ L x i = -1 ∨ fn_ L i ^^^ x < ne_ L x i ^^^ x then fn_ L i else ne_ L x i from rfl, if_pos (by first | exact Or.inl h14 | exact Or.inr (Int32.not_le.mp h27))])
          rw [hne] at hl
          refine lv_iinc (v := nI (i + 1)) (lv' := [(3, .int (nI (i + 1))), (2, .int (ne_ L x (i + 1))), (0, .ref (ad_ D v)), (1, .int x)]) hx hb dX1_nearest_36 hl (k := 1) rfl (g_inc i) (by decide) rfl (fun ls hl => ?_)
          refine lv_goto (tgt := 4) hx hb dX1_nearest_39 (by decide) ?_
          exact ih4 (i + 1) (by omega) (by omega) _ _ hP hS ls (lv_sub hl [0, 1, 2, 3] rfl)
        · refine lv_aload_n hx hb dX1_nearest_17 rfl (lv_at hl 2 rfl) ?_
          refine lv_iload_n hx hb dX1_nearest_18 rfl (lv_at hl 0 rfl) ?_
          refine g_callV0 (y := yX1_nameAt) (n := 1) (As := [.int (nI i)]) (rest := []) hx hb hml hown hts hE hZ hP hS hl.1 (m_X1_nameAtN l D hAD σ v L F G hV i (by omega)) k_X1_30 (ci := 1) (by omega) hV.1 rfl rfl rfl rfl rfl ⟨rfl, rfl⟩ ⟨Nat.le_of_ble_eq_true rfl, Nat.le_of_ble_eq_true rfl⟩ (Nat.le_of_ble_eq_true rfl) ⟨Nat.le_of_ble_eq_true rfl, Nat.le_of_ble_eq_true rfl⟩ dX1_nearest_19 (fun v3 σ_4 H locs hq hP hS => ?_)
          obtain ⟨rfl, rfl⟩ := hq
          refine W.eq (g2 := F0 m 22 ls [.int (fn_ L i)]) rfl ?_
          refine lv_iload_n hx hb dX1_nearest_22 rfl (lv_at hl 3 rfl) ?_
          refine lv_ixor hx hb dX1_nearest_23 ?_
          refine lv_iload_n hx hb dX1_nearest_24 rfl (lv_at hl 1 rfl) ?_
          refine lv_iload_n hx hb dX1_nearest_25 rfl (lv_at hl 3 rfl) ?_
          refine lv_ixor hx hb dX1_nearest_26 ?_
          refine lv_icmp_ge (tgt := 36) hx hb dX1_nearest_27 (by decide) (fun h27 => ?_) (fun h27 => ?_)
          · have h27 := Int32.not_lt.mpr h27
            have hne : ne_ L x i = ne_ L x (i + 1) := (by rw [show ne_ L x (i + 1) = if ne_ L x i = -1 ∨ fn_ L i ^^^ x < ne_ L x i ^^^ x then fn_ L i else ne_ L x i from rfl, if_neg (fun h => h.elim (fun q => h14 q) h27)])
            rw [hne] at hl
            refine lv_iinc (v := nI (i + 1)) (lv' := [(3, .int (nI (i + 1))), (2, .int (ne_ L x (i + 1))), (0, .ref (ad_ D v)), (1, .int x)]) hx hb dX1_nearest_36 hl (k := 0) rfl (g_inc i) (by decide) rfl (fun ls hl => ?_)
            refine lv_goto (tgt := 4) hx hb dX1_nearest_39 (by decide) ?_
            exact ih4 (i + 1) (by omega) (by omega) _ _ hP hS ls (lv_sub hl [0, 1, 2, 3] rfl)
          · refine lv_aload_n hx hb dX1_nearest_30 rfl (lv_at hl 2 rfl) ?_
            refine lv_iload_n hx hb dX1_nearest_31 rfl (lv_at hl 0 rfl) ?_
            refine g_callV0 (y := yX1_nameAt) (n := 1) (As := [.int (nI i)]) (rest := []) hx hb hml hown hts hE hZ hP hS hl.1 (m_X1_nameAtN l D hAD σ v L F G hV i (by omega)) k_X1_30 (ci := 1) (by omega) hV.1 rfl rfl rfl rfl rfl ⟨rfl, rfl⟩ ⟨Nat.le_of_ble_eq_true rfl, Nat.le_of_ble_eq_true rfl⟩ (Nat.le_of_ble_eq_true rfl) ⟨Nat.le_of_ble_eq_true rfl, Nat.le_of_ble_eq_true rfl⟩ dX1_nearest_32 (fun v5 σ_6 H locs hq hP hS => ?_)
            obtain ⟨rfl, rfl⟩ := hq
            refine W.eq (g2 := F0 m 35 ls [.int (fn_ L i)]) rfl ?_
            refine lv_istore_n (lv' := [(2, .int (fn_ L i)), (3, .int (nI i)), (0, .ref (ad_ D v)), (1, .int x)]) hx hb dX1_nearest_35 rfl hl (by decide) rfl (fun ls hl => ?_)
            have hne : fn_ L i = ne_ L x (i + 1) := (by rw [show ne_ L x (i + 1) = if ne_ L x i = -1 ∨ fn_ L i ^^^ x < ne_ L x i ^^^ x then fn_ L i else ne_ L x i from rfl, if_pos (by first | exact Or.inl h14 | exact Or.inr (Int32.not_le.mp h27))])
            rw [hne] at hl
            refine lv_iinc (v := nI (i + 1)) (lv' := [(3, .int (nI (i + 1))), (2, .int (ne_ L x (i + 1))), (0, .ref (ad_ D v)), (1, .int x)]) hx hb dX1_nearest_36 hl (k := 1) rfl (g_inc i) (by decide) rfl (fun ls hl => ?_)
            refine lv_goto (tgt := 4) hx hb dX1_nearest_39 (by decide) ?_
            exact ih4 (i + 1) (by omega) (by omega) _ _ hP hS ls (lv_sub hl [0, 1, 2, 3] rfl)
  exact K4 ((L.length - 0) + 1) 0 (Nat.lt_succ_self _) (Nat.zero_le _) _ _ hP hS ls (lv_sub hl [0, 1, 2, 3] rfl)

abbrev m_X1_farthest_rm : Room := { frames := 10, cells := 0, slots := 0, locals := 242 }
set_option maxHeartbeats 4000000 in
set_option maxRecDepth 100000 in
theorem m_X1_farthest (l : Launch) (D : va_G) (hAD : g_AD D) (σ : Nat → va_E) (v : Nat) (L : g_L) (F G : Nat → Int32) (hV : g_VF D σ v L F G)   : g_M l D yX1_farthest cX1_farthest 4 (some .int) m_X1_farthest_rm [.ref (ad_ D v)] σ (fun v1 σ1 => v1 = some (.int (fa_ L L.length)) ∧ σ = σ1) := by
  refine g_ofW [(0, .ref (ad_ D v))] (by decide +kernel) (Nat.le_of_ble_eq_true rfl) rfl ?_
  intro p e s m args below meth c hx hb hr hml hown hlocks hts hE hZ hP hS hnm ls hl
  have hown : s.vm.findClass RX1 = some m.cls := hown
  generalize hQ : MQ _ _ _ _ _ _ _ = Q
  obtain ⟨h0, h1, h2, hFG, hLn, hvv⟩ := id hV
  refine lv_iconst (v := (-1)) hx hb dX1_farthest_0 (by decide) ?_
  refine lv_istore_n (lv' := [(1, .int ((-1))), (0, .ref (ad_ D v))]) hx hb dX1_farthest_1 rfl hl (by decide) rfl (fun ls hl => ?_)
  refine lv_iconst (v := nI 0) hx hb dX1_farthest_2 (by decide) ?_
  refine lv_istore_n (lv' := [(2, .int (nI 0)), (1, .int ((-1))), (0, .ref (ad_ D v))]) hx hb dX1_farthest_3 rfl hl (by decide) rfl (fun ls hl => ?_)
  have K4 : ∀ (fuel4 : Nat) (i : Nat), (L.length - i) < fuel4 → (i ≤ L.length) → ∀ (H : Heap) (locs : List Loc), va_P D vwCl (g_W D σ) H → va_S (g_A D s.heap.size) s.heap H locs → ∀ ls : Array Slot, lv_has ls 4 [(2, .int (nI i)), (1, .int (fa_ L i)), (0, .ref (ad_ D v))] → W p l e m_X1_farthest_rm s m args below meth c H locs 0 0 Q (F0 m 4 ls []) := by
    intro fuel4
    induction fuel4 with
    | zero => intro i hf; exact absurd hf (Nat.not_lt_zero _)
    | succ fuel4 ih4 =>
      intro i hf4 hi H locs hP hS ls hl
      refine lv_iload_n hx hb dX1_farthest_4 rfl (lv_at hl 0 rfl) ?_
      refine lv_aload_n hx hb dX1_farthest_5 rfl (lv_at hl 2 rfl) ?_
      refine g_get hx hb hts hE hown hP g_inX1 rfl (by omega) h0 2 (by decide) rfl wf_X1_18 (v := .int (nI L.length)) rfl dX1_farthest_6 ?_
      refine lv_icmp_ge (tgt := 52) hx hb dX1_farthest_9 (by decide) (fun h9 => ?_) (fun h9 => ?_)
      · have hb9 := g_le (a := L.length) (b := i) h9 (by omega) (by omega)
        have hi2 : i = L.length := by omega
        refine lv_iload_n hx hb dX1_farthest_52 rfl (lv_at hl 1 rfl) ?_
        rw [← hQ]
        exact W.iret (v := fa_ L i) hx hb hr (fun t ht _ => g_fin (⟨by rw [hi2], rfl⟩) hP hS ht) hS.2.2 dX1_farthest_53 hlocks
      · have hb9 := g_nle (a := L.length) (b := i) h9 (by omega) (by omega)
        refine lv_iload_n hx hb dX1_farthest_12 rfl (lv_at hl 0 rfl) ?_
        refine lv_iconst (v := nI 1) hx hb dX1_farthest_13 (by decide) ?_
        refine lv_iadd hx hb dX1_farthest_14 ?_
        refine g_top (y := nI (i + 1)) (nI_add i 1) ?_
        refine lv_istore_n (lv' := [(3, .int (nI (i + 1))), (2, .int (nI i)), (1, .int (fa_ L i)), (0, .ref (ad_ D v))]) hx hb dX1_farthest_15 rfl hl (by decide) rfl (fun ls hl => ?_)
        have K16 : ∀ (fuel16 : Nat) (c9 : Nat), (L.length - c9) < fuel16 → (i + 1 + c9 ≤ L.length) → ∀ (H : Heap) (locs : List Loc), va_P D vwCl (g_W D σ) H → va_S (g_A D s.heap.size) s.heap H locs → ∀ ls : Array Slot, lv_has ls 4 [(3, .int (nI (i + 1 + c9))), (1, .int (fi_ L i (fa_ L i) c9)), (2, .int (nI i)), (0, .ref (ad_ D v))] → W p l e m_X1_farthest_rm s m args below meth c H locs 0 0 Q (F0 m 16 ls []) := by
          intro fuel16
          induction fuel16 with
          | zero => intro c9 hf; exact absurd hf (Nat.not_lt_zero _)
          | succ fuel16 ih16 =>
            intro c9 hf16 hc H locs hP hS ls hl
            refine lv_iload_n hx hb dX1_farthest_16 rfl (lv_at hl 0 rfl) ?_
            refine lv_aload_n hx hb dX1_farthest_17 rfl (lv_at hl 3 rfl) ?_
            refine g_get hx hb hts hE hown hP g_inX1 rfl (by omega) h0 2 (by decide) rfl wf_X1_18 (v := .int (nI L.length)) rfl dX1_farthest_18 ?_
            refine lv_icmp_ge (tgt := 46) hx hb dX1_farthest_21 (by decide) (fun h21 => ?_) (fun h21 => ?_)
            · have hb21 := g_le (a := L.length) (b := i + 1 + c9) h21 (by omega) (by omega)
              have hfa : fi_ L i (fa_ L i) c9 = fa_ L (i + 1) := by rw [show c9 = L.length - (i + 1) by omega]; rfl
              rw [hfa] at hl
              refine lv_iinc (v := nI (i + 1)) (lv' := [(2, .int (nI (i + 1))), (3, .int (nI (i + 1 + c9))), (1, .int (fa_ L (i + 1))), (0, .ref (ad_ D v))]) hx hb dX1_farthest_46 hl (k := 2) rfl (g_inc i) (by decide) rfl (fun ls hl => ?_)
              refine lv_goto (tgt := 4) hx hb dX1_farthest_49 (by decide) ?_
              exact ih4 (i + 1) (by omega) (by omega) _ _ hP hS ls (lv_sub hl [0, 2, 3] rfl)
            · have hb21 := g_nle (a := L.length) (b := i + 1 + c9) h21 (by omega) (by omega)
              refine lv_iload_n hx hb dX1_farthest_24 rfl (lv_at hl 1 rfl) ?_
              refine lv_aload_n hx hb dX1_farthest_25 rfl (lv_at hl 3 rfl) ?_
              refine lv_iload_n hx hb dX1_farthest_26 rfl (lv_at hl 2 rfl) ?_
              refine g_callV0 (y := yX1_nameAt) (n := 1) (As := [.int (nI i)]) (rest := [.int (fi_ L i (fa_ L i) c9)]) hx hb hml hown hts hE hZ hP hS hl.1 (m_X1_nameAtN l D hAD σ v L F G hV i (by omega)) k_X1_30 (ci := 1) (by omega) hV.1 rfl rfl rfl rfl rfl ⟨rfl, rfl⟩ ⟨Nat.le_of_ble_eq_true rfl, Nat.le_of_ble_eq_true rfl⟩ (Nat.le_of_ble_eq_true rfl) ⟨Nat.le_of_ble_eq_true rfl, Nat.le_of_ble_eq_true rfl⟩ dX1_farthest_27 (fun v1 σ_2 H locs hq hP hS => ?_)
              obtain ⟨rfl, rfl⟩ := hq
              refine W.eq (g2 := F0 m 30 ls [.int (fn_ L i), .int (fi_ L i (fa_ L i) c9)]) rfl ?_
              refine lv_aload_n hx hb dX1_farthest_30 rfl (lv_at hl 3 rfl) ?_
              refine lv_iload_n hx hb dX1_farthest_31 rfl (lv_at hl 0 rfl) ?_
              refine g_callV0 (y := yX1_nameAt) (n := 1) (As := [.int (nI (i + 1 + c9))]) (rest := [.int (fn_ L i), .int (fi_ L i (fa_ L i) c9)]) hx hb hml hown hts hE hZ hP hS hl.1 (m_X1_nameAtN l D hAD σ v L F G hV (i + 1 + c9) (by omega)) k_X1_30 (ci := 1) (by omega) hV.1 rfl rfl rfl rfl rfl ⟨rfl, rfl⟩ ⟨Nat.le_of_ble_eq_true rfl, Nat.le_of_ble_eq_true rfl⟩ (Nat.le_of_ble_eq_true rfl) ⟨Nat.le_of_ble_eq_true rfl, Nat.le_of_ble_eq_true rfl⟩ dX1_farthest_32 (fun v3 σ_4 H locs hq hP hS => ?_)
              obtain ⟨rfl, rfl⟩ := hq
              refine W.eq (g2 := F0 m 35 ls [.int (fn_ L (i + 1 + c9)), .int (fn_ L i), .int (fi_ L i (fa_ L i) c9)]) rfl ?_
              refine lv_ixor hx hb dX1_farthest_35 ?_
              refine g_mmax hx hb (hml.trans hl.1.symm) hown hts k_X1_57 k_max ⟨Nat.le_of_ble_eq_true rfl, Nat.le_of_ble_eq_true rfl, by omega, by omega⟩ dX1_farthest_36 ?_
              refine lv_istore_n (lv' := [(1, .int (if fi_ L i (fa_ L i) c9 < (fn_ L i) ^^^ (fn_ L (i + 1 + c9)) then (fn_ L i) ^^^ (fn_ L (i + 1 + c9)) else fi_ L i (fa_ L i) c9)), (3, .int (nI (i + 1 + c9))), (2, .int (nI i)), (0, .ref (ad_ D v))]) hx hb dX1_farthest_39 rfl hl (by decide) rfl (fun ls hl => ?_)
              refine lv_iinc (v := nI (i + 1 + c9 + 1)) (lv' := [(3, .int (nI (i + 1 + c9 + 1))), (1, .int (if fi_ L i (fa_ L i) c9 < (fn_ L i) ^^^ (fn_ L (i + 1 + c9)) then (fn_ L i) ^^^ (fn_ L (i + 1 + c9)) else fi_ L i (fa_ L i) c9)), (2, .int (nI i)), (0, .ref (ad_ D v))]) hx hb dX1_farthest_40 hl (k := 1) rfl (g_inc (i + 1 + c9)) (by decide) rfl (fun ls hl => ?_)
              refine lv_goto (tgt := 16) hx hb dX1_farthest_43 (by decide) ?_
              exact ih16 (c9 + 1) (by omega) (by omega) _ _ hP hS ls (lv_sub hl [0, 1, 2, 3] rfl)
        exact K16 ((L.length - 0) + 1) 0 (Nat.lt_succ_self _) (by omega) _ _ hP hS ls (lv_sub hl [0, 2, 1, 3] rfl)
  exact K4 ((L.length - 0) + 1) 0 (Nat.lt_succ_self _) (Nat.zero_le _) _ _ hP hS ls (lv_sub hl [0, 1, 2] rfl)
end
section
/-! PURE: the row of signs -/
theorem g_VF.one {D : va_G} {σ σ' : Nat → va_E} {v q : Nat} {L : g_L} {F G : Nat → Int32} (h : g_VF D σ v L F G) (hf : ∀ k, k ≠ q → σ' k = σ k) (hd : q < v ∨ v + 2 < q) : g_VF D σ' v L F G := by
  obtain ⟨h0, h1, h2, h3⟩ := h
  exact ⟨by rw [hf v (by omega)]; exact h0, by rw [hf (v + 1) (by omega)]; exact h1, by rw [hf (v + 2) (by omega)]; exact h2, h3⟩
/-- the Signs object at 10, its nine rows at 11 .. 19 -/
def g_S (D : va_G) (σ : Nat → va_E) (sz : Nat) (T : Nat → Nat → Int32) : Prop := σ 10 = .inr (0, [.ref (ad_ D 11), .ref (ad_ D 12), .ref (ad_ D 13), .ref (ad_ D 14), .ref (ad_ D 15), .ref (ad_ D 16), .ref (ad_ D 17), .ref (ad_ D 18), .ref (ad_ D 19), .int (nI sz)]) ∧ σ 11 = .inl (g_cI D, 95, .inl (T 0)) ∧ σ 12 = .inl (g_cI D, 95, .inl (T 1)) ∧ σ 13 = .inl (g_cI D, 95, .inl (T 2)) ∧ σ 14 = .inl (g_cI D, 95, .inl (T 3)) ∧ σ 15 = .inl (g_cI D, 95, .inl (T 4)) ∧ σ 16 = .inl (g_cI D, 95, .inl (T 5)) ∧ σ 17 = .inl (g_cI D, 95, .inl (T 6)) ∧ σ 18 = .inl (g_cI D, 95, .inl (T 7)) ∧ σ 19 = .inl (g_cI D, 95, .inl (T 8)) ∧ sz ≤ 95
theorem g_S.off {D : va_G} {σ σ' : Nat → va_E} {lo hi sz : Nat} {T : Nat → Nat → Int32} (h : g_S D σ sz T) (ho : g_off lo hi σ σ') (hd : 19 < lo ∨ hi < 10) : g_S D σ' sz T := by
  obtain ⟨h0, h1, h2, h3, h4, h5, h6, h7, h8, h9, hs⟩ := h
  exact ⟨by rw [ho 10 (by omega)]; exact h0, by rw [ho 11 (by omega)]; exact h1, by rw [ho 12 (by omega)]; exact h2, by rw [ho 13 (by omega)]; exact h3, by rw [ho 14 (by omega)]; exact h4, by rw [ho 15 (by omega)]; exact h5, by rw [ho 16 (by omega)]; exact h6, by rw [ho 17 (by omega)]; exact h7, by rw [ho 18 (by omega)]; exact h8, by rw [ho 19 (by omega)]; exact h9, hs⟩
/-- begin -/
def bg_ (T : Nat → Nat → Int32) (p a c q b : Nat) : Nat → Nat → Int32 := fun j => match j with
  | 1 => upd (T 1) p (nI a)
  | 2 => upd (T 2) p (nI c)
  | 7 => upd (T 7) p (nI q)
  | 8 => upd (T 8) p (nI b)
  | j => T j
/-- how many names of a part, from its start on, don't have the bit -/
def sp_ (f : Nat → Int32) (b : Int32) : Nat → Nat → Nat
  | _, 0 => 0
  | a, c + 1 => if hb_ (f a) b then 0 else sp_ f b (a + 1) c + 1
theorem sp_le (f : Nat → Int32) (b : Int32) : ∀ (c a : Nat), sp_ f b a c ≤ c
  | 0, _ => Nat.le_refl _
  | c + 1, a => by rw [sp_]; split
                   · exact Nat.zero_le _
                   · exact Nat.succ_le_succ (sp_le f b c (a + 1))
theorem sp_no (f : Nat → Int32) (b : Int32) : ∀ (c a j : Nat), j < sp_ f b a c → hb_ (f (a + j)) b = false
  | 0, _, j, h => absurd h (Nat.not_lt_zero j)
  | c + 1, a, j, h => by
    rw [sp_] at h
    split at h
    · exact absurd h (Nat.not_lt_zero j)
    · next hn =>
      cases j with
      | zero => simpa using hn
      | succ j => rw [show a + (j + 1) = a + 1 + j by omega]; exact sp_no f b c (a + 1) j (Nat.lt_of_succ_lt_succ h)
theorem sp_yes (f : Nat → Int32) (b : Int32) : ∀ (c a : Nat), sp_ f b a c < c → hb_ (f (a + sp_ f b a c)) b = true
  | 0, _, h => absurd h (Nat.not_lt_zero _)
  | c + 1, a, h => by
    rw [sp_] at h ⊢
    split
    · next hn => simpa using hn
    · next hn =>
      rw [if_neg hn] at h
      rw [show a + (sp_ f b (a + 1) c + 1) = a + 1 + sp_ f b (a + 1) c by omega]
      exact sp_yes f b c (a + 1) (Nat.lt_of_succ_lt_succ h)
theorem sp_eq {f : Nat → Int32} {b : Int32} {a c i : Nat} (hi : i ≤ c) (h : ∀ j, j < i → hb_ (f (a + j)) b = false) (h2 : i < c → hb_ (f (a + i)) b = true) : sp_ f b a c = i := by
  rcases Nat.lt_trichotomy (sp_ f b a c) i with q | q | q
  · have := sp_yes f b c a (Nat.lt_of_lt_of_le q hi)
    rw [h _ q] at this; cases this
  · exact q
  · have := sp_no f b c a i q
    rw [h2 (Nat.lt_of_lt_of_le q (sp_le f b c a))] at this; cases this
/-- fillSides at a post -/
def fs2_ (f : Nat → Int32) (T : Nat → Nat → Int32) (p a c q : Nat) : Nat → Nat → Int32 := fun j => match j with
  | 5 => upd (T 5) p (nI (p + 1))
  | 6 => upd (T 6) p (nI (p + 2 * sp_ f (T 0 p) a c))
  | j => T j
def fsd_ (f : Nat → Int32) (T : Nat → Nat → Int32) (p a c q : Nat) : Nat → Nat → Int32 := bg_ (bg_ (fs2_ f T p a c q) (p + 1) a (sp_ f (T 0 p) a c) (q + 1) (c - sp_ f (T 0 p) a c)) (p + 2 * sp_ f (T 0 p) a c) (a + sp_ f (T 0 p) a c) (c - sp_ f (T 0 p) a c) (q + 1) (sp_ f (T 0 p) a c)
/-- fillAt -/
def fa0_ (f : Nat → Int32) (T : Nat → Nat → Int32) (p a c : Nat) : Nat → Nat → Int32 := fun j => match j with
  | 0 => upd (T 0) p (fub_ (f a) (f (a + c - 1)))
  | 3 => upd (T 3) p (f a)
  | 4 => upd (T 4) p (f (a + c - 1))
  | 5 => upd (T 5) p (-1)
  | 6 => upd (T 6) p (-1)
  | j => T j
def fat_ (f : Nat → Int32) (T : Nat → Nat → Int32) (p a c q : Nat) : Nat → Nat → Int32 := if 2 ≤ c then fsd_ f (fa0_ f T p a c) p a c q else fa0_ f T p a c
theorem upd_at {f : Nat → Int32} {k : Nat} {x : Int32} : upd f k x k = x := by simp [upd]
theorem upd_ne {f : Nat → Int32} {k j : Nat} {x : Int32} (h : j ≠ k) : upd f k x j = f j := by simp [upd, h]
/-! what is told of all signs -/
def pc_ (B : Nat → Int32) : Nat → Nat
  | 0 => 0
  | k + 1 => pc_ B k + if B k = -1 then 0 else 1
def pb_ (B : Nat → Int32) : Nat → Int32
  | 0 => 0
  | k + 1 => if B k = -1 then pb_ B k else pb_ B k ||| ((1 : Int32) <<< (B k &&& 31))
def lg_ (A : Nat → Int32) : Nat → Int32
  | 0 => 0
  | k + 1 => im_ (lg_ A k) (A k)
def ap_ (B A : Nat → Int32) : Nat → Int32
  | 0 => 0
  | k + 1 => if B k = -1 then ap_ B A k + A k else ap_ B A k
/-- the most that is spared, and by whom -/
def bs_ (T : Nat → Nat → Int32) : Nat → Int32 × Int32
  | 0 => (-1, -1)
  | k + 1 => if T 0 k = -1 ∧ (bs_ T k).2 < T 7 k + T 8 k then (T 3 k, T 7 k + T 8 k) else bs_ T k
def tel_ (T : Nat → Nat → Int32) (w p : Nat) : Int32 := match w with
  | 0 => T 0 p
  | 1 => T 2 p
  | 2 => T 3 p
  | 3 => T 4 p
  | 4 => T 5 p
  | 5 => T 6 p
  | _ => T 7 p
def wk_ (T : Nat → Nat → Int32) (x : Int32) : Nat → Nat → Nat
  | 0, p => p
  | k + 1, p => if T 0 p = -1 then p else wk_ T x k (if hb_ x (T 0 p) then (T 6 p).toNatClampNeg else (T 5 p).toNatClampNeg)
def tw_ (T : Nat → Nat → Int32) (x : Int32) (w : Nat) : Int32 := match w with
  | 0 => T 7 (wk_ T x 16 0)
  | 1 => T 3 (wk_ T x 16 0)
  | _ => fub_ (T 3 (wk_ T x 16 0)) x
end
section
abbrev m_X0_size_rm : Room := { frames := 8, cells := 0, slots := 0, locals := 200 }
set_option maxHeartbeats 4000000 in
set_option maxRecDepth 100000 in
theorem m_X0_size (l : Launch) (D : va_G) (hAD : g_AD D) (σ : Nat → va_E) (sz : Nat) (T : Nat → Nat → Int32) (hG : g_S D σ sz T)   : g_M l D yX0_size cX0_size 1 (some .int) m_X0_size_rm [.ref (ad_ D 10)] σ (fun v1 σ1 => v1 = some (.int (nI sz)) ∧ σ = σ1) := by
  refine g_ofW [(0, .ref (ad_ D 10))] (by decide +kernel) (Nat.le_of_ble_eq_true rfl) rfl ?_
  intro p e s m args below meth c hx hb hr hml hown hlocks hts hE hZ hP hS hnm ls hl
  have hown : s.vm.findClass RX0 = some m.cls := hown
  generalize hQ : MQ _ _ _ _ _ _ _ = Q
  obtain ⟨h10, h11, h12, h13, h14, h15, h16, h17, h18, h19, hsz⟩ := id hG
  refine lv_aload_n hx hb dX0_size_0 rfl (lv_at hl 0 rfl) ?_
  refine g_get hx hb hts hE hown hP g_inX0 rfl (by decide) h10 9 (by decide) rfl wf_X0_39 (v := .int (nI sz)) rfl dX0_size_1 ?_
  rw [← hQ]
  exact W.iret (v := nI sz) hx hb hr (fun t ht _ => g_fin (⟨rfl, rfl⟩) hP hS ht) hS.2.2 dX0_size_4 hlocks

abbrev m_X0_begin_rm : Room := { frames := 9, cells := 0, slots := 0, locals := 222 }
set_option maxHeartbeats 4000000 in
set_option maxRecDepth 100000 in
theorem m_X0_begin (l : Launch) (D : va_G) (hAD : g_AD D) (σ : Nat → va_E) (sz : Nat) (T : Nat → Nat → Int32) (hG : g_S D σ sz T) (p9 a9 c9 q9 b9 : Nat) (hp : p9 < 95) : g_M l D yX0_begin cX0_begin 6 none m_X0_begin_rm [.ref (ad_ D 10), .int (nI p9), .int (nI a9), .int (nI c9), .int (nI q9), .int (nI b9)] σ (fun v1 σ1 => v1 = none ∧ g_S D σ1 sz (bg_ T p9 a9 c9 q9 b9) ∧ g_off 10 19 σ σ1) := by
  refine g_ofW [(0, .ref (ad_ D 10)), (1, .int (nI p9)), (2, .int (nI a9)), (3, .int (nI c9)), (4, .int (nI q9)), (5, .int (nI b9))] (by decide +kernel) (Nat.le_of_ble_eq_true rfl) rfl ?_
  intro p e s m args below meth c hx hb hr hml hown hlocks hts hE hZ hP hS hnm ls hl
  have hown : s.vm.findClass RX0 = some m.cls := hown
  generalize hQ : MQ _ _ _ _ _ _ _ = Q
  obtain ⟨h10, h11, h12, h13, h14, h15, h16, h17, h18, h19, hsz⟩ := id hG
  refine lv_aload_n hx hb dX0_begin_0 rfl (lv_at hl 0 rfl) ?_
  refine g_get hx hb hts hE hown hP g_inX0 rfl (by decide) h10 1 (by decide) rfl wf_X0_15 (v := .ref (ad_ D 12)) rfl dX0_begin_1 ?_
  refine lv_iload_n hx hb dX0_begin_4 rfl (lv_at hl 1 rfl) ?_
  refine lv_iload_n hx hb dX0_begin_5 rfl (lv_at hl 2 rfl) ?_
  refine g_callN0 (y := yX2_write) (n := 3) (As := [.ref (ad_ D 12), .int (nI p9), .int (nI a9)]) (rest := []) hx hb hml hown hts hE hZ hP hS hl.1 (m_X2_write l D hAD σ 12 95 (T 1) (nI p9) (nI a9) (by decide) (by decide) h12) k_X0_81 rfl rfl ⟨rfl, rfl⟩ ⟨Nat.le_of_ble_eq_true rfl, Nat.le_of_ble_eq_true rfl⟩ (Nat.le_of_ble_eq_true rfl) ⟨Nat.le_of_ble_eq_true rfl, Nat.le_of_ble_eq_true rfl⟩ dX0_begin_6 (fun v1 σ_2 H locs hq hP hS => ?_)
  obtain ⟨rfl, hw, hfr⟩ := hq
  refine W.eq (g2 := F0 m 9 ls []) rfl ?_
  rw [wr_in (by omega) (by decide)] at hw
  have hc3 := (hfr 10 (by decide)).trans h10
  have hc4 := (hfr 11 (by decide)).trans h11
  have hc5 := hw
  have hc6 := (hfr 13 (by decide)).trans h13
  have hc7 := (hfr 14 (by decide)).trans h14
  have hc8 := (hfr 15 (by decide)).trans h15
  have hc9 := (hfr 16 (by decide)).trans h16
  have hc10 := (hfr 17 (by decide)).trans h17
  have hc11 := (hfr 18 (by decide)).trans h18
  have hc12 := (hfr 19 (by decide)).trans h19
  have ho13 := g_off.one (g_off.rf (lo := 10) (hi := 19) (σ := σ)) hfr (by omega) (by omega)
  refine lv_aload_n hx hb dX0_begin_9 rfl (lv_at hl 0 rfl) ?_
  refine g_get hx hb hts hE hown hP g_inX0 rfl (by decide) hc3 2 (by decide) rfl wf_X0_18 (v := .ref (ad_ D 13)) rfl dX0_begin_10 ?_
  refine lv_iload_n hx hb dX0_begin_13 rfl (lv_at hl 1 rfl) ?_
  refine lv_iload_n hx hb dX0_begin_14 rfl (lv_at hl 3 rfl) ?_
  refine g_callN0 (y := yX2_write) (n := 3) (As := [.ref (ad_ D 13), .int (nI p9), .int (nI c9)]) (rest := []) hx hb hml hown hts hE hZ hP hS hl.1 (m_X2_write l D hAD σ_2 13 95 (T 2) (nI p9) (nI c9) (by decide) (by decide) hc6) k_X0_81 rfl rfl ⟨rfl, rfl⟩ ⟨Nat.le_of_ble_eq_true rfl, Nat.le_of_ble_eq_true rfl⟩ (Nat.le_of_ble_eq_true rfl) ⟨Nat.le_of_ble_eq_true rfl, Nat.le_of_ble_eq_true rfl⟩ dX0_begin_15 (fun v14 σ_15 H locs hq hP hS => ?_)
  obtain ⟨rfl, hw, hfr⟩ := hq
  refine W.eq (g2 := F0 m 18 ls []) rfl ?_
  rw [wr_in (by omega) (by decide)] at hw
  have hc16 := (hfr 10 (by decide)).trans hc3
  have hc17 := (hfr 11 (by decide)).trans hc4
  have hc18 := (hfr 12 (by decide)).trans hc5
  have hc19 := hw
  have hc20 := (hfr 14 (by decide)).trans hc7
  have hc21 := (hfr 15 (by decide)).trans hc8
  have hc22 := (hfr 16 (by decide)).trans hc9
  have hc23 := (hfr 17 (by decide)).trans hc10
  have hc24 := (hfr 18 (by decide)).trans hc11
  have hc25 := (hfr 19 (by decide)).trans hc12
  have ho26 := g_off.one ho13 hfr (by omega) (by omega)
  refine lv_aload_n hx hb dX0_begin_18 rfl (lv_at hl 0 rfl) ?_
  refine g_get hx hb hts hE hown hP g_inX0 rfl (by decide) hc16 7 (by decide) rfl wf_X0_33 (v := .ref (ad_ D 18)) rfl dX0_begin_19 ?_
  refine lv_iload_n hx hb dX0_begin_22 rfl (lv_at hl 1 rfl) ?_
  refine lv_iload hx hb dX0_begin_23 (lv_at hl 4 rfl) ?_
  refine g_callN0 (y := yX2_write) (n := 3) (As := [.ref (ad_ D 18), .int (nI p9), .int (nI q9)]) (rest := []) hx hb hml hown hts hE hZ hP hS hl.1 (m_X2_write l D hAD σ_15 18 95 (T 7) (nI p9) (nI q9) (by decide) (by decide) hc24) k_X0_81 rfl rfl ⟨rfl, rfl⟩ ⟨Nat.le_of_ble_eq_true rfl, Nat.le_of_ble_eq_true rfl⟩ (Nat.le_of_ble_eq_true rfl) ⟨Nat.le_of_ble_eq_true rfl, Nat.le_of_ble_eq_true rfl⟩ dX0_begin_25 (fun v27 σ_28 H locs hq hP hS => ?_)
  obtain ⟨rfl, hw, hfr⟩ := hq
  refine W.eq (g2 := F0 m 28 ls []) rfl ?_
  rw [wr_in (by omega) (by decide)] at hw
  have hc29 := (hfr 10 (by decide)).trans hc16
  have hc30 := (hfr 11 (by decide)).trans hc17
  have hc31 := (hfr 12 (by decide)).trans hc18
  have hc32 := (hfr 13 (by decide)).trans hc19
  have hc33 := (hfr 14 (by decide)).trans hc20
  have hc34 := (hfr 15 (by decide)).trans hc21
  have hc35 := (hfr 16 (by decide)).trans hc22
  have hc36 := (hfr 17 (by decide)).trans hc23
  have hc37 := hw
  have hc38 := (hfr 19 (by decide)).trans hc25
  have ho39 := g_off.one ho26 hfr (by omega) (by omega)
  refine lv_aload_n hx hb dX0_begin_28 rfl (lv_at hl 0 rfl) ?_
  refine g_get hx hb hts hE hown hP g_inX0 rfl (by decide) hc29 8 (by decide) rfl wf_X0_36 (v := .ref (ad_ D 19)) rfl dX0_begin_29 ?_
  refine lv_iload_n hx hb dX0_begin_32 rfl (lv_at hl 1 rfl) ?_
  refine lv_iload hx hb dX0_begin_33 (lv_at hl 5 rfl) ?_
  refine g_callN0 (y := yX2_write) (n := 3) (As := [.ref (ad_ D 19), .int (nI p9), .int (nI b9)]) (rest := []) hx hb hml hown hts hE hZ hP hS hl.1 (m_X2_write l D hAD σ_28 19 95 (T 8) (nI p9) (nI b9) (by decide) (by decide) hc38) k_X0_81 rfl rfl ⟨rfl, rfl⟩ ⟨Nat.le_of_ble_eq_true rfl, Nat.le_of_ble_eq_true rfl⟩ (Nat.le_of_ble_eq_true rfl) ⟨Nat.le_of_ble_eq_true rfl, Nat.le_of_ble_eq_true rfl⟩ dX0_begin_35 (fun v40 σ_41 H locs hq hP hS => ?_)
  obtain ⟨rfl, hw, hfr⟩ := hq
  refine W.eq (g2 := F0 m 38 ls []) rfl ?_
  rw [wr_in (by omega) (by decide)] at hw
  have hc42 := (hfr 10 (by decide)).trans hc29
  have hc43 := (hfr 11 (by decide)).trans hc30
  have hc44 := (hfr 12 (by decide)).trans hc31
  have hc45 := (hfr 13 (by decide)).trans hc32
  have hc46 := (hfr 14 (by decide)).trans hc33
  have hc47 := (hfr 15 (by decide)).trans hc34
  have hc48 := (hfr 16 (by decide)).trans hc35
  have hc49 := (hfr 17 (by decide)).trans hc36
  have hc50 := (hfr 18 (by decide)).trans hc37
  have hc51 := hw
  have ho52 := g_off.one ho39 hfr (by omega) (by omega)
  rw [← hQ]
  exact W.vret hx hb hr (fun t ht _ => g_fin (⟨rfl, ⟨hc42, hc43, hc44, hc45, hc46, hc47, hc48, hc49, hc50, hc51, hsz⟩, ho52⟩) hP hS ht) hS.2.2 dX0_begin_38 hlocks

abbrev m_X0_fillSides_rm : Room := { frames := 10, cells := 0, slots := 0, locals := 247 }
set_option maxHeartbeats 4000000 in
set_option maxRecDepth 100000 in
theorem m_X0_fillSides (l : Launch) (D : va_G) (hAD : g_AD D) (σ : Nat → va_E) (sz : Nat) (T : Nat → Nat → Int32) (hG : g_S D σ sz T) (v : Nat) (L : g_L) (F G : Nat → Int32) (p9 a9 c9 q9 : Nat) (hV : g_VF D σ v L F G) (hvd : v + 2 < 10 ∨ 19 < v) (e1 : T 1 p9 = nI a9) (e2 : T 2 p9 = nI c9) (e7 : T 7 p9 = nI q9) (hac : a9 + c9 ≤ L.length) (hp : p9 + 2 * c9 ≤ 96) (hg1 : sp_ (fn_ L) (T 0 p9) a9 c9 < c9) (h2c : 2 ≤ c9) (hq9 : q9 < 1000) : g_M l D yX0_fillSides cX0_fillSides 8 none m_X0_fillSides_rm [.ref (ad_ D 10), .int (nI p9), .ref (ad_ D v)] σ (fun v1 σ1 => v1 = none ∧ g_S D σ1 sz (fsd_ (fn_ L) T p9 a9 c9 q9) ∧ g_off 10 19 σ σ1) := by
  refine g_ofW [(0, .ref (ad_ D 10)), (1, .int (nI p9)), (2, .ref (ad_ D v))] (by decide +kernel) (Nat.le_of_ble_eq_true rfl) rfl ?_
  intro p e s m args below meth c hx hb hr hml hown hlocks hts hE hZ hP hS hnm ls hl
  have hown : s.vm.findClass RX0 = some m.cls := hown
  generalize hQ : MQ _ _ _ _ _ _ _ = Q
  obtain ⟨h10, h11, h12, h13, h14, h15, h16, h17, h18, h19, hsz⟩ := id hG
  have hvv := hV.2.2.2.2.2
  have hLn := hV.2.2.2.2.1
  refine lv_aload_n hx hb dX0_fillSides_0 rfl (lv_at hl 0 rfl) ?_
  refine g_get hx hb hts hE hown hP g_inX0 rfl (by decide) h10 1 (by decide) rfl wf_X0_15 (v := .ref (ad_ D 12)) rfl dX0_fillSides_1 ?_
  refine lv_iload_n hx hb dX0_fillSides_4 rfl (lv_at hl 1 rfl) ?_
  refine g_callN0 (y := yX2_read) (n := 2) (As := [.ref (ad_ D 12), .int (nI p9)]) (rest := []) hx hb hml hown hts hE hZ hP hS hl.1 (m_X2_read l D hAD σ 12 95 (T 1) (nI p9) (by decide) (by decide) h12) k_X0_56 rfl rfl ⟨rfl, rfl⟩ ⟨Nat.le_of_ble_eq_true rfl, Nat.le_of_ble_eq_true rfl⟩ (Nat.le_of_ble_eq_true rfl) ⟨Nat.le_of_ble_eq_true rfl, Nat.le_of_ble_eq_true rfl⟩ dX0_fillSides_5 (fun v1 σ_2 H locs hq hP hS => ?_)
  obtain ⟨rfl, rfl⟩ := hq
  refine W.eq (g2 := F0 m 8 ls [.int (rd_ (T 1) 95 (nI p9))]) rfl ?_
  refine g_top (y := nI a9) ((rd_in (by omega) (by decide)).trans e1) ?_
  refine lv_istore_n (lv' := [(3, .int (nI a9)), (0, .ref (ad_ D 10)), (1, .int (nI p9)), (2, .ref (ad_ D v))]) hx hb dX0_fillSides_8 rfl hl (by decide) rfl (fun ls hl => ?_)
  refine lv_iload_n hx hb dX0_fillSides_9 rfl (lv_at hl 0 rfl) ?_
  refine lv_aload_n hx hb dX0_fillSides_10 rfl (lv_at hl 1 rfl) ?_
  refine g_get hx hb hts hE hown hP g_inX0 rfl (by decide) h10 2 (by decide) rfl wf_X0_18 (v := .ref (ad_ D 13)) rfl dX0_fillSides_11 ?_
  refine lv_iload_n hx hb dX0_fillSides_14 rfl (lv_at hl 2 rfl) ?_
  refine g_callN0 (y := yX2_read) (n := 2) (As := [.ref (ad_ D 13), .int (nI p9)]) (rest := [.int (nI a9)]) hx hb hml hown hts hE hZ hP hS hl.1 (m_X2_read l D hAD σ 13 95 (T 2) (nI p9) (by decide) (by decide) h13) k_X0_56 rfl rfl ⟨rfl, rfl⟩ ⟨Nat.le_of_ble_eq_true rfl, Nat.le_of_ble_eq_true rfl⟩ (Nat.le_of_ble_eq_true rfl) ⟨Nat.le_of_ble_eq_true rfl, Nat.le_of_ble_eq_true rfl⟩ dX0_fillSides_15 (fun v3 σ_4 H locs hq hP hS => ?_)
  obtain ⟨rfl, rfl⟩ := hq
  refine W.eq (g2 := F0 m 18 ls [.int (rd_ (T 2) 95 (nI p9)), .int (nI a9)]) rfl ?_
  refine g_top (y := nI c9) ((rd_in (by omega) (by decide)).trans e2) ?_
  refine lv_iadd hx hb dX0_fillSides_18 ?_
  refine g_top (y := nI (a9 + c9)) (nI_add a9 c9) ?_
  refine lv_istore (lv' := [(4, .int (nI (a9 + c9))), (3, .int (nI a9)), (0, .ref (ad_ D 10)), (1, .int (nI p9)), (2, .ref (ad_ D v))]) hx hb dX0_fillSides_19 hl (by decide) rfl (fun ls hl => ?_)
  refine lv_iload_n hx hb dX0_fillSides_21 rfl (lv_at hl 1 rfl) ?_
  refine lv_istore (lv' := [(5, .int (nI a9)), (4, .int (nI (a9 + c9))), (3, .int (nI a9)), (0, .ref (ad_ D 10)), (1, .int (nI p9)), (2, .ref (ad_ D v))]) hx hb dX0_fillSides_22 hl (by decide) rfl (fun ls hl => ?_)
  have K24 : ∀ (fuel24 : Nat) (i : Nat), (c9 - i) < fuel24 → (i ≤ c9) → (∀ j, j < i → hb_ (fn_ L (a9 + j)) (T 0 p9) = false) → ∀ (H : Heap) (locs : List Loc), va_P D vwCl (g_W D σ) H → va_S (g_A D s.heap.size) s.heap H locs → ∀ ls : Array Slot, lv_has ls 8 [(5, .int (nI (a9 + i))), (4, .int (nI (a9 + c9))), (3, .int (nI a9)), (0, .ref (ad_ D 10)), (1, .int (nI p9)), (2, .ref (ad_ D v))] → W p l e m_X0_fillSides_rm s m args below meth c H locs 0 0 Q (F0 m 24 ls []) := by
    intro fuel24
    induction fuel24 with
    | zero => intro i hf; exact absurd hf (Nat.not_lt_zero _)
    | succ fuel24 ih24 =>
      intro i hf24 hi hno H locs hP hS ls hl
      refine lv_iload hx hb dX0_fillSides_24 (lv_at hl 0 rfl) ?_
      refine lv_iload hx hb dX0_fillSides_26 (lv_at hl 1 rfl) ?_
      refine lv_icmp_ge (tgt := 57) hx hb dX0_fillSides_28 (by decide) (fun h28 => ?_) (fun h28 => ?_)
      · have hb28 := g_le (a := a9 + c9) (b := a9 + i) h28 (by omega) (by omega)
        have hsp : sp_ (fn_ L) (T 0 p9) a9 c9 = i := sp_eq hi hno (fun h => by omega)
        rw [← hsp] at hl
        have hsp1 := hg1
        refine lv_aload_n hx hb dX0_fillSides_57 rfl (lv_at hl 3 rfl) ?_
        refine g_get hx hb hts hE hown hP g_inX0 rfl (by decide) h10 7 (by decide) rfl wf_X0_33 (v := .ref (ad_ D 18)) rfl dX0_fillSides_58 ?_
        refine lv_iload_n hx hb dX0_fillSides_61 rfl (lv_at hl 4 rfl) ?_
        refine g_callN0 (y := yX2_read) (n := 2) (As := [.ref (ad_ D 18), .int (nI p9)]) (rest := []) hx hb hml hown hts hE hZ hP hS hl.1 (m_X2_read l D hAD σ 18 95 (T 7) (nI p9) (by decide) (by decide) h18) k_X0_56 rfl rfl ⟨rfl, rfl⟩ ⟨Nat.le_of_ble_eq_true rfl, Nat.le_of_ble_eq_true rfl⟩ (Nat.le_of_ble_eq_true rfl) ⟨Nat.le_of_ble_eq_true rfl, Nat.le_of_ble_eq_true rfl⟩ dX0_fillSides_62 (fun v5 σ_6 H locs hq hP hS => ?_)
        obtain ⟨rfl, rfl⟩ := hq
        refine W.eq (g2 := F0 m 65 ls [.int (rd_ (T 7) 95 (nI p9))]) rfl ?_
        refine g_top (y := nI q9) ((rd_in (by omega) (by decide)).trans e7) ?_
        refine lv_iconst (v := nI 1) hx hb dX0_fillSides_65 (by decide) ?_
        refine lv_iadd hx hb dX0_fillSides_66 ?_
        refine g_top (y := nI (q9 + 1)) (nI_add q9 1) ?_
        refine lv_istore (lv' := [(6, .int (nI (q9 + 1))), (5, .int (nI (a9 + sp_ (fn_ L) (T 0 p9) a9 c9))), (4, .int (nI (a9 + c9))), (3, .int (nI a9)), (0, .ref (ad_ D 10)), (1, .int (nI p9)), (2, .ref (ad_ D v))]) hx hb dX0_fillSides_67 hl (by decide) rfl (fun ls hl => ?_)
        refine lv_iload_n hx hb dX0_fillSides_69 rfl (lv_at hl 5 rfl) ?_
        refine lv_iconst (v := nI 2) hx hb dX0_fillSides_70 (by decide) ?_
        refine lv_iload hx hb dX0_fillSides_71 (lv_at hl 1 rfl) ?_
        refine lv_iload_n hx hb dX0_fillSides_73 rfl (lv_at hl 3 rfl) ?_
        refine lv_isub hx hb dX0_fillSides_74 ?_
        refine g_top (y := nI ((a9 + sp_ (fn_ L) (T 0 p9) a9 c9) - a9)) (pk_sub (by omega)) ?_
        refine g_top (y := nI (sp_ (fn_ L) (T 0 p9) a9 c9)) (congrArg nI (by omega)) ?_
        refine lv_imul hx hb dX0_fillSides_75 ?_
        refine g_top (y := nI (2 * (sp_ (fn_ L) (T 0 p9) a9 c9))) (pk_mul 2 (sp_ (fn_ L) (T 0 p9) a9 c9)) ?_
        refine lv_iadd hx hb dX0_fillSides_76 ?_
        refine g_top (y := nI (p9 + (2 * (sp_ (fn_ L) (T 0 p9) a9 c9)))) (nI_add p9 (2 * (sp_ (fn_ L) (T 0 p9) a9 c9))) ?_
        refine lv_istore (lv' := [(7, .int (nI (p9 + (2 * (sp_ (fn_ L) (T 0 p9) a9 c9))))), (6, .int (nI (q9 + 1))), (5, .int (nI (a9 + sp_ (fn_ L) (T 0 p9) a9 c9))), (4, .int (nI (a9 + c9))), (3, .int (nI a9)), (0, .ref (ad_ D 10)), (1, .int (nI p9)), (2, .ref (ad_ D v))]) hx hb dX0_fillSides_77 hl (by decide) rfl (fun ls hl => ?_)
        refine lv_aload_n hx hb dX0_fillSides_79 rfl (lv_at hl 5 rfl) ?_
        refine g_get hx hb hts hE hown hP g_inX0 rfl (by decide) h10 5 (by decide) rfl wf_X0_27 (v := .ref (ad_ D 16)) rfl dX0_fillSides_80 ?_
        refine lv_iload_n hx hb dX0_fillSides_83 rfl (lv_at hl 6 rfl) ?_
        refine lv_iload_n hx hb dX0_fillSides_84 rfl (lv_at hl 6 rfl) ?_
        refine lv_iconst (v := nI 1) hx hb dX0_fillSides_85 (by decide) ?_
        refine lv_iadd hx hb dX0_fillSides_86 ?_
        refine g_top (y := nI (p9 + 1)) (nI_add p9 1) ?_
        refine g_callN0 (y := yX2_write) (n := 3) (As := [.ref (ad_ D 16), .int (nI p9), .int (nI (p9 + 1))]) (rest := []) hx hb hml hown hts hE hZ hP hS hl.1 (m_X2_write l D hAD σ 16 95 (T 5) (nI p9) (nI (p9 + 1)) (by decide) (by decide) h16) k_X0_81 rfl rfl ⟨rfl, rfl⟩ ⟨Nat.le_of_ble_eq_true rfl, Nat.le_of_ble_eq_true rfl⟩ (Nat.le_of_ble_eq_true rfl) ⟨Nat.le_of_ble_eq_true rfl, Nat.le_of_ble_eq_true rfl⟩ dX0_fillSides_87 (fun v7 σ_8 H locs hq hP hS => ?_)
        obtain ⟨rfl, hw, hfr⟩ := hq
        refine W.eq (g2 := F0 m 90 ls []) rfl ?_
        have hVw9 := g_VF.one hV hfr (by omega)
        rw [wr_in (by omega) (by decide)] at hw
        have hc10 := (hfr 10 (by decide)).trans h10
        have hc11 := (hfr 11 (by decide)).trans h11
        have hc12 := (hfr 12 (by decide)).trans h12
        have hc13 := (hfr 13 (by decide)).trans h13
        have hc14 := (hfr 14 (by decide)).trans h14
        have hc15 := (hfr 15 (by decide)).trans h15
        have hc16 := hw
        have hc17 := (hfr 17 (by decide)).trans h17
        have hc18 := (hfr 18 (by decide)).trans h18
        have hc19 := (hfr 19 (by decide)).trans h19
        have ho20 := g_off.one (g_off.rf (lo := 10) (hi := 19) (σ := σ)) hfr (by omega) (by omega)
        refine lv_aload_n hx hb dX0_fillSides_90 rfl (lv_at hl 5 rfl) ?_
        refine g_get hx hb hts hE hown hP g_inX0 rfl (by decide) hc10 6 (by decide) rfl wf_X0_30 (v := .ref (ad_ D 17)) rfl dX0_fillSides_91 ?_
        refine lv_iload_n hx hb dX0_fillSides_94 rfl (lv_at hl 6 rfl) ?_
        refine lv_iload hx hb dX0_fillSides_95 (lv_at hl 0 rfl) ?_
        refine g_callN0 (y := yX2_write) (n := 3) (As := [.ref (ad_ D 17), .int (nI p9), .int (nI (p9 + (2 * (sp_ (fn_ L) (T 0 p9) a9 c9))))]) (rest := []) hx hb hml hown hts hE hZ hP hS hl.1 (m_X2_write l D hAD σ_8 17 95 (T 6) (nI p9) (nI (p9 + (2 * (sp_ (fn_ L) (T 0 p9) a9 c9)))) (by decide) (by decide) hc17) k_X0_81 rfl rfl ⟨rfl, rfl⟩ ⟨Nat.le_of_ble_eq_true rfl, Nat.le_of_ble_eq_true rfl⟩ (Nat.le_of_ble_eq_true rfl) ⟨Nat.le_of_ble_eq_true rfl, Nat.le_of_ble_eq_true rfl⟩ dX0_fillSides_97 (fun v21 σ_22 H locs hq hP hS => ?_)
        obtain ⟨rfl, hw, hfr⟩ := hq
        refine W.eq (g2 := F0 m 100 ls []) rfl ?_
        have hVw23 := g_VF.one hVw9 hfr (by omega)
        rw [wr_in (by omega) (by decide)] at hw
        have hc24 := (hfr 10 (by decide)).trans hc10
        have hc25 := (hfr 11 (by decide)).trans hc11
        have hc26 := (hfr 12 (by decide)).trans hc12
        have hc27 := (hfr 13 (by decide)).trans hc13
        have hc28 := (hfr 14 (by decide)).trans hc14
        have hc29 := (hfr 15 (by decide)).trans hc15
        have hc30 := (hfr 16 (by decide)).trans hc16
        have hc31 := hw
        have hc32 := (hfr 18 (by decide)).trans hc18
        have hc33 := (hfr 19 (by decide)).trans hc19
        have ho34 := g_off.one ho20 hfr (by omega) (by omega)
        refine lv_aload_n hx hb dX0_fillSides_100 rfl (lv_at hl 5 rfl) ?_
        refine lv_iload_n hx hb dX0_fillSides_101 rfl (lv_at hl 6 rfl) ?_
        refine lv_iconst (v := nI 1) hx hb dX0_fillSides_102 (by decide) ?_
        refine lv_iadd hx hb dX0_fillSides_103 ?_
        refine g_top (y := nI (p9 + 1)) (nI_add p9 1) ?_
        refine lv_iload_n hx hb dX0_fillSides_104 rfl (lv_at hl 4 rfl) ?_
        refine lv_iload hx hb dX0_fillSides_105 (lv_at hl 2 rfl) ?_
        refine lv_iload_n hx hb dX0_fillSides_107 rfl (lv_at hl 4 rfl) ?_
        refine lv_isub hx hb dX0_fillSides_108 ?_
        refine g_top (y := nI ((a9 + sp_ (fn_ L) (T 0 p9) a9 c9) - a9)) (pk_sub (by omega)) ?_
        refine g_top (y := nI (sp_ (fn_ L) (T 0 p9) a9 c9)) (congrArg nI (by omega)) ?_
        refine lv_iload hx hb dX0_fillSides_109 (lv_at hl 1 rfl) ?_
        refine lv_iload hx hb dX0_fillSides_111 (lv_at hl 3 rfl) ?_
        refine lv_iload hx hb dX0_fillSides_113 (lv_at hl 2 rfl) ?_
        refine lv_isub hx hb dX0_fillSides_115 ?_
        refine g_top (y := nI ((a9 + c9) - (a9 + sp_ (fn_ L) (T 0 p9) a9 c9))) (pk_sub (by omega)) ?_
        refine g_top (y := nI (c9 - sp_ (fn_ L) (T 0 p9) a9 c9)) (congrArg nI (by omega)) ?_
        have hGp35 : g_S D σ_22 sz (fs2_ (fn_ L) T p9 a9 c9 q9) := ⟨hc24, hc25, hc26, hc27, hc28, hc29, hc30, hc31, hc32, hc33, hsz⟩
        refine g_callV0 (y := yX0_begin) (n := 5) (As := [.int (nI (p9 + 1)), .int (nI a9), .int (nI (sp_ (fn_ L) (T 0 p9) a9 c9)), .int (nI (q9 + 1)), .int (nI (c9 - sp_ (fn_ L) (T 0 p9) a9 c9))]) (rest := []) hx hb hml hown hts hE hZ hP hS hl.1 (m_X0_begin l D hAD σ_22 sz (fs2_ (fn_ L) T p9 a9 c9 q9) hGp35 (p9 + 1) a9 (sp_ (fn_ L) (T 0 p9) a9 c9) (q9 + 1) (c9 - sp_ (fn_ L) (T 0 p9) a9 c9) (by omega)) k_X0_48 (ci := 0) (by decide) hc24 rfl rfl rfl rfl rfl ⟨rfl, rfl⟩ ⟨Nat.le_of_ble_eq_true rfl, Nat.le_of_ble_eq_true rfl⟩ (Nat.le_of_ble_eq_true rfl) ⟨Nat.le_of_ble_eq_true rfl, Nat.le_of_ble_eq_true rfl⟩ dX0_fillSides_116 (fun v36 σ_37 H locs hq hP hS => ?_)
        obtain ⟨rfl, hq2⟩ := hq
        refine W.eq (g2 := F0 m 119 ls []) rfl ?_
        obtain ⟨hGb38, hob39⟩ := hq2
        have hV40 := g_VF.off hVw23 hob39 (by omega)
        obtain ⟨s41_10, s41_11, s41_12, s41_13, s41_14, s41_15, s41_16, s41_17, s41_18, s41_19, s41_sz⟩ := id hGb38
        have ho42 := g_off.tr ho34 hob39
        refine lv_aload_n hx hb dX0_fillSides_119 rfl (lv_at hl 5 rfl) ?_
        refine lv_iload hx hb dX0_fillSides_120 (lv_at hl 0 rfl) ?_
        refine lv_iload hx hb dX0_fillSides_122 (lv_at hl 2 rfl) ?_
        refine lv_iload hx hb dX0_fillSides_124 (lv_at hl 3 rfl) ?_
        refine lv_iload hx hb dX0_fillSides_126 (lv_at hl 2 rfl) ?_
        refine lv_isub hx hb dX0_fillSides_128 ?_
        refine g_top (y := nI ((a9 + c9) - (a9 + sp_ (fn_ L) (T 0 p9) a9 c9))) (pk_sub (by omega)) ?_
        refine g_top (y := nI (c9 - sp_ (fn_ L) (T 0 p9) a9 c9)) (congrArg nI (by omega)) ?_
        refine lv_iload hx hb dX0_fillSides_129 (lv_at hl 1 rfl) ?_
        refine lv_iload hx hb dX0_fillSides_131 (lv_at hl 2 rfl) ?_
        refine lv_iload_n hx hb dX0_fillSides_133 rfl (lv_at hl 4 rfl) ?_
        refine lv_isub hx hb dX0_fillSides_134 ?_
        refine g_top (y := nI ((a9 + sp_ (fn_ L) (T 0 p9) a9 c9) - a9)) (pk_sub (by omega)) ?_
        refine g_top (y := nI (sp_ (fn_ L) (T 0 p9) a9 c9)) (congrArg nI (by omega)) ?_
        have hGp43 : g_S D σ_37 sz (bg_ (fs2_ (fn_ L) T p9 a9 c9 q9) (p9 + 1) a9 (sp_ (fn_ L) (T 0 p9) a9 c9) (q9 + 1) (c9 - sp_ (fn_ L) (T 0 p9) a9 c9)) := ⟨s41_10, s41_11, s41_12, s41_13, s41_14, s41_15, s41_16, s41_17, s41_18, s41_19, hsz⟩
        refine g_callV0 (y := yX0_begin) (n := 5) (As := [.int (nI (p9 + (2 * (sp_ (fn_ L) (T 0 p9) a9 c9)))), .int (nI (a9 + sp_ (fn_ L) (T 0 p9) a9 c9)), .int (nI (c9 - sp_ (fn_ L) (T 0 p9) a9 c9)), .int (nI (q9 + 1)), .int (nI (sp_ (fn_ L) (T 0 p9) a9 c9))]) (rest := []) hx hb hml hown hts hE hZ hP hS hl.1 (m_X0_begin l D hAD σ_37 sz (bg_ (fs2_ (fn_ L) T p9 a9 c9 q9) (p9 + 1) a9 (sp_ (fn_ L) (T 0 p9) a9 c9) (q9 + 1) (c9 - sp_ (fn_ L) (T 0 p9) a9 c9)) hGp43 (p9 + (2 * (sp_ (fn_ L) (T 0 p9) a9 c9))) (a9 + sp_ (fn_ L) (T 0 p9) a9 c9) (c9 - sp_ (fn_ L) (T 0 p9) a9 c9) (q9 + 1) (sp_ (fn_ L) (T 0 p9) a9 c9) (by omega)) k_X0_48 (ci := 0) (by decide) s41_10 rfl rfl rfl rfl rfl ⟨rfl, rfl⟩ ⟨Nat.le_of_ble_eq_true rfl, Nat.le_of_ble_eq_true rfl⟩ (Nat.le_of_ble_eq_true rfl) ⟨Nat.le_of_ble_eq_true rfl, Nat.le_of_ble_eq_true rfl⟩ dX0_fillSides_135 (fun v44 σ_45 H locs hq hP hS => ?_)
        obtain ⟨rfl, hq2⟩ := hq
        refine W.eq (g2 := F0 m 138 ls []) rfl ?_
        obtain ⟨hGb46, hob47⟩ := hq2
        have hV48 := g_VF.off hV40 hob47 (by omega)
        obtain ⟨s49_10, s49_11, s49_12, s49_13, s49_14, s49_15, s49_16, s49_17, s49_18, s49_19, s49_sz⟩ := id hGb46
        have ho50 := g_off.tr ho42 hob47
        rw [← hQ]
        exact W.vret hx hb hr (fun t ht _ => g_fin (⟨rfl, hGb46, ho50⟩) hP hS ht) hS.2.2 dX0_fillSides_138 hlocks
      · have hb28 := g_nle (a := a9 + c9) (b := a9 + i) h28 (by omega) (by omega)
        refine lv_aload_n hx hb dX0_fillSides_31 rfl (lv_at hl 5 rfl) ?_
        refine lv_iload hx hb dX0_fillSides_32 (lv_at hl 0 rfl) ?_
        refine g_callV0 (y := yX1_nameAt) (n := 1) (As := [.int (nI (a9 + i))]) (rest := []) hx hb hml hown hts hE hZ hP hS hl.1 (m_X1_nameAtN l D hAD σ v L F G hV (a9 + i) (by omega)) k_X0_85 (ci := 1) (by omega) hV.1 rfl rfl rfl rfl rfl ⟨rfl, rfl⟩ ⟨Nat.le_of_ble_eq_true rfl, Nat.le_of_ble_eq_true rfl⟩ (Nat.le_of_ble_eq_true rfl) ⟨Nat.le_of_ble_eq_true rfl, Nat.le_of_ble_eq_true rfl⟩ dX0_fillSides_34 (fun v51 σ_52 H locs hq hP hS => ?_)
        obtain ⟨rfl, rfl⟩ := hq
        refine W.eq (g2 := F0 m 37 ls [.int (fn_ L (a9 + i))]) rfl ?_
        refine lv_aload_n hx hb dX0_fillSides_37 rfl (lv_at hl 3 rfl) ?_
        refine g_get hx hb hts hE hown hP g_inX0 rfl (by decide) h10 0 (by decide) rfl wf_X0_9 (v := .ref (ad_ D 11)) rfl dX0_fillSides_38 ?_
        refine lv_iload_n hx hb dX0_fillSides_41 rfl (lv_at hl 4 rfl) ?_
        refine g_callN0 (y := yX2_read) (n := 2) (As := [.ref (ad_ D 11), .int (nI p9)]) (rest := [.int (fn_ L (a9 + i))]) hx hb hml hown hts hE hZ hP hS hl.1 (m_X2_read l D hAD σ 11 95 (T 0) (nI p9) (by decide) (by decide) h11) k_X0_56 rfl rfl ⟨rfl, rfl⟩ ⟨Nat.le_of_ble_eq_true rfl, Nat.le_of_ble_eq_true rfl⟩ (Nat.le_of_ble_eq_true rfl) ⟨Nat.le_of_ble_eq_true rfl, Nat.le_of_ble_eq_true rfl⟩ dX0_fillSides_42 (fun v53 σ_54 H locs hq hP hS => ?_)
        obtain ⟨rfl, rfl⟩ := hq
        refine W.eq (g2 := F0 m 45 ls [.int (rd_ (T 0) 95 (nI p9)), .int (fn_ L (a9 + i))]) rfl ?_
        refine g_top (y := T 0 p9) (rd_in (by omega) (by decide)) ?_
        refine g_callN0 (y := yX2_hasBit) (n := 2) (As := [.int (fn_ L (a9 + i)), .int (T 0 p9)]) (rest := []) hx hb hml hown hts hE hZ hP hS hl.1 (m_X2_hasBit l D hAD σ (fn_ L (a9 + i)) (T 0 p9)) k_X0_77 rfl rfl ⟨rfl, rfl⟩ ⟨Nat.le_of_ble_eq_true rfl, Nat.le_of_ble_eq_true rfl⟩ (Nat.le_of_ble_eq_true rfl) ⟨Nat.le_of_ble_eq_true rfl, Nat.le_of_ble_eq_true rfl⟩ dX0_fillSides_45 (fun v55 σ_56 H locs hq hP hS => ?_)
        obtain ⟨rfl, rfl⟩ := hq
        refine W.eq (g2 := F0 m 48 ls [.int (if hb_ (fn_ L (a9 + i)) (T 0 p9) then 1 else 0)]) rfl ?_
        refine lv_if_ne (tgt := 57) hx hb dX0_fillSides_48 (by decide) (fun h48 => ?_) (fun h48 => ?_)
        · have hbt : hb_ (fn_ L (a9 + i)) (T 0 p9) = true := by cases hz : hb_ (fn_ L (a9 + i)) (T 0 p9) with | true => rfl | false => exact absurd (by rw [hz]; rfl) h48
          have hsp : sp_ (fn_ L) (T 0 p9) a9 c9 = i := sp_eq hi hno (fun _ => hbt)
          rw [← hsp] at hl
          have hsp1 := hg1
          refine lv_aload_n hx hb dX0_fillSides_57 rfl (lv_at hl 3 rfl) ?_
          refine g_get hx hb hts hE hown hP g_inX0 rfl (by decide) h10 7 (by decide) rfl wf_X0_33 (v := .ref (ad_ D 18)) rfl dX0_fillSides_58 ?_
          refine lv_iload_n hx hb dX0_fillSides_61 rfl (lv_at hl 4 rfl) ?_
          refine g_callN0 (y := yX2_read) (n := 2) (As := [.ref (ad_ D 18), .int (nI p9)]) (rest := []) hx hb hml hown hts hE hZ hP hS hl.1 (m_X2_read l D hAD σ 18 95 (T 7) (nI p9) (by decide) (by decide) h18) k_X0_56 rfl rfl ⟨rfl, rfl⟩ ⟨Nat.le_of_ble_eq_true rfl, Nat.le_of_ble_eq_true rfl⟩ (Nat.le_of_ble_eq_true rfl) ⟨Nat.le_of_ble_eq_true rfl, Nat.le_of_ble_eq_true rfl⟩ dX0_fillSides_62 (fun v57 σ_58 H locs hq hP hS => ?_)
          obtain ⟨rfl, rfl⟩ := hq
          refine W.eq (g2 := F0 m 65 ls [.int (rd_ (T 7) 95 (nI p9))]) rfl ?_
          refine g_top (y := nI q9) ((rd_in (by omega) (by decide)).trans e7) ?_
          refine lv_iconst (v := nI 1) hx hb dX0_fillSides_65 (by decide) ?_
          refine lv_iadd hx hb dX0_fillSides_66 ?_
          refine g_top (y := nI (q9 + 1)) (nI_add q9 1) ?_
          refine lv_istore (lv' := [(6, .int (nI (q9 + 1))), (5, .int (nI (a9 + sp_ (fn_ L) (T 0 p9) a9 c9))), (4, .int (nI (a9 + c9))), (3, .int (nI a9)), (0, .ref (ad_ D 10)), (1, .int (nI p9)), (2, .ref (ad_ D v))]) hx hb dX0_fillSides_67 hl (by decide) rfl (fun ls hl => ?_)
          refine lv_iload_n hx hb dX0_fillSides_69 rfl (lv_at hl 5 rfl) ?_
          refine lv_iconst (v := nI 2) hx hb dX0_fillSides_70 (by decide) ?_
          refine lv_iload hx hb dX0_fillSides_71 (lv_at hl 1 rfl) ?_
          refine lv_iload_n hx hb dX0_fillSides_73 rfl (lv_at hl 3 rfl) ?_
          refine lv_isub hx hb dX0_fillSides_74 ?_
          refine g_top (y := nI ((a9 + sp_ (fn_ L) (T 0 p9) a9 c9) - a9)) (pk_sub (by omega)) ?_
          refine g_top (y := nI (sp_ (fn_ L) (T 0 p9) a9 c9)) (congrArg nI (by omega)) ?_
          refine lv_imul hx hb dX0_fillSides_75 ?_
          refine g_top (y := nI (2 * (sp_ (fn_ L) (T 0 p9) a9 c9))) (pk_mul 2 (sp_ (fn_ L) (T 0 p9) a9 c9)) ?_
          refine lv_iadd hx hb dX0_fillSides_76 ?_
          refine g_top (y := nI (p9 + (2 * (sp_ (fn_ L) (T 0 p9) a9 c9)))) (nI_add p9 (2 * (sp_ (fn_ L) (T 0 p9) a9 c9))) ?_
          refine lv_istore (lv' := [(7, .int (nI (p9 + (2 * (sp_ (fn_ L) (T 0 p9) a9 c9))))), (6, .int (nI (q9 + 1))), (5, .int (nI (a9 + sp_ (fn_ L) (T 0 p9) a9 c9))), (4, .int (nI (a9 + c9))), (3, .int (nI a9)), (0, .ref (ad_ D 10)), (1, .int (nI p9)), (2, .ref (ad_ D v))]) hx hb dX0_fillSides_77 hl (by decide) rfl (fun ls hl => ?_)
          refine lv_aload_n hx hb dX0_fillSides_79 rfl (lv_at hl 5 rfl) ?_
          refine g_get hx hb hts hE hown hP g_inX0 rfl (by decide) h10 5 (by decide) rfl wf_X0_27 (v := .ref (ad_ D 16)) rfl dX0_fillSides_80 ?_
          refine lv_iload_n hx hb dX0_fillSides_83 rfl (lv_at hl 6 rfl) ?_
          refine lv_iload_n hx hb dX0_fillSides_84 rfl (lv_at hl 6 rfl) ?_
          refine lv_iconst (v := nI 1) hx hb dX0_fillSides_85 (by decide) ?_
          refine lv_iadd hx hb dX0_fillSides_86 ?_
          refine g_top (y := nI (p9 + 1)) (nI_add p9 1) ?_
          refine g_callN0 (y := yX2_write) (n := 3) (As := [.ref (ad_ D 16), .int (nI p9), .int (nI (p9 + 1))]) (rest := []) hx hb hml hown hts hE hZ hP hS hl.1 (m_X2_write l D hAD σ 16 95 (T 5) (nI p9) (nI (p9 + 1)) (by decide) (by decide) h16) k_X0_81 rfl rfl ⟨rfl, rfl⟩ ⟨Nat.le_of_ble_eq_true rfl, Nat.le_of_ble_eq_true rfl⟩ (Nat.le_of_ble_eq_true rfl) ⟨Nat.le_of_ble_eq_true rfl, Nat.le_of_ble_eq_true rfl⟩ dX0_fillSides_87 (fun v59 σ_60 H locs hq hP hS => ?_)
          obtain ⟨rfl, hw, hfr⟩ := hq
          refine W.eq (g2 := F0 m 90 ls []) rfl ?_
          have hVw61 := g_VF.one hV hfr (by omega)
          rw [wr_in (by omega) (by decide)] at hw
          have hc62 := (hfr 10 (by decide)).trans h10
          have hc63 := (hfr 11 (by decide)).trans h11
          have hc64 := (hfr 12 (by decide)).trans h12
          have hc65 := (hfr 13 (by decide)).trans h13
          have hc66 := (hfr 14 (by decide)).trans h14
          have hc67 := (hfr 15 (by decide)).trans h15
          have hc68 := hw
          have hc69 := (hfr 17 (by decide)).trans h17
          have hc70 := (hfr 18 (by decide)).trans h18
          have hc71 := (hfr 19 (by decide)).trans h19
          have ho72 := g_off.one (g_off.rf (lo := 10) (hi := 19) (σ := σ)) hfr (by omega) (by omega)
          refine lv_aload_n hx hb dX0_fillSides_90 rfl (lv_at hl 5 rfl) ?_
          refine g_get hx hb hts hE hown hP g_inX0 rfl (by decide) hc62 6 (by decide) rfl wf_X0_30 (v := .ref (ad_ D 17)) rfl dX0_fillSides_91 ?_
          refine lv_iload_n hx hb dX0_fillSides_94 rfl (lv_at hl 6 rfl) ?_
          refine lv_iload hx hb dX0_fillSides_95 (lv_at hl 0 rfl) ?_
          refine g_callN0 (y := yX2_write) (n := 3) (As := [.ref (ad_ D 17), .int (nI p9), .int (nI (p9 + (2 * (sp_ (fn_ L) (T 0 p9) a9 c9))))]) (rest := []) hx hb hml hown hts hE hZ hP hS hl.1 (m_X2_write l D hAD σ_60 17 95 (T 6) (nI p9) (nI (p9 + (2 * (sp_ (fn_ L) (T 0 p9) a9 c9)))) (by decide) (by decide) hc69) k_X0_81 rfl rfl ⟨rfl, rfl⟩ ⟨Nat.le_of_ble_eq_true rfl, Nat.le_of_ble_eq_true rfl⟩ (Nat.le_of_ble_eq_true rfl) ⟨Nat.le_of_ble_eq_true rfl, Nat.le_of_ble_eq_true rfl⟩ dX0_fillSides_97 (fun v73 σ_74 H locs hq hP hS => ?_)
          obtain ⟨rfl, hw, hfr⟩ := hq
          refine W.eq (g2 := F0 m 100 ls []) rfl ?_
          have hVw75 := g_VF.one hVw61 hfr (by omega)
          rw [wr_in (by omega) (by decide)] at hw
          have hc76 := (hfr 10 (by decide)).trans hc62
          have hc77 := (hfr 11 (by decide)).trans hc63
          have hc78 := (hfr 12 (by decide)).trans hc64
          have hc79 := (hfr 13 (by decide)).trans hc65
          have hc80 := (hfr 14 (by decide)).trans hc66
          have hc81 := (hfr 15 (by decide)).trans hc67
          have hc82 := (hfr 16 (by decide)).trans hc68
          have hc83 := hw
          have hc84 := (hfr 18 (by decide)).trans hc70
          have hc85 := (hfr 19 (by decide)).trans hc71
          have ho86 := g_off.one ho72 hfr (by omega) (by omega)
          refine lv_aload_n hx hb dX0_fillSides_100 rfl (lv_at hl 5 rfl) ?_
          refine lv_iload_n hx hb dX0_fillSides_101 rfl (lv_at hl 6 rfl) ?_
          refine lv_iconst (v := nI 1) hx hb dX0_fillSides_102 (by decide) ?_
          refine lv_iadd hx hb dX0_fillSides_103 ?_
          refine g_top (y := nI (p9 + 1)) (nI_add p9 1) ?_
          refine lv_iload_n hx hb dX0_fillSides_104 rfl (lv_at hl 4 rfl) ?_
          refine lv_iload hx hb dX0_fillSides_105 (lv_at hl 2 rfl) ?_
          refine lv_iload_n hx hb dX0_fillSides_107 rfl (lv_at hl 4 rfl) ?_
          refine lv_isub hx hb dX0_fillSides_108 ?_
          refine g_top (y := nI ((a9 + sp_ (fn_ L) (T 0 p9) a9 c9) - a9)) (pk_sub (by omega)) ?_
          refine g_top (y := nI (sp_ (fn_ L) (T 0 p9) a9 c9)) (congrArg nI (by omega)) ?_
          refine lv_iload hx hb dX0_fillSides_109 (lv_at hl 1 rfl) ?_
          refine lv_iload hx hb dX0_fillSides_111 (lv_at hl 3 rfl) ?_
          refine lv_iload hx hb dX0_fillSides_113 (lv_at hl 2 rfl) ?_
          refine lv_isub hx hb dX0_fillSides_115 ?_
          refine g_top (y := nI ((a9 + c9) - (a9 + sp_ (fn_ L) (T 0 p9) a9 c9))) (pk_sub (by omega)) ?_
          refine g_top (y := nI (c9 - sp_ (fn_ L) (T 0 p9) a9 c9)) (congrArg nI (by omega)) ?_
          have hGp87 : g_S D σ_74 sz (fs2_ (fn_ L) T p9 a9 c9 q9) := ⟨hc76, hc77, hc78, hc79, hc80, hc81, hc82, hc83, hc84, hc85, hsz⟩
          refine g_callV0 (y := yX0_begin) (n := 5) (As := [.int (nI (p9 + 1)), .int (nI a9), .int (nI (sp_ (fn_ L) (T 0 p9) a9 c9)), .int (nI (q9 + 1)), .int (nI (c9 - sp_ (fn_ L) (T 0 p9) a9 c9))]) (rest := []) hx hb hml hown hts hE hZ hP hS hl.1 (m_X0_begin l D hAD σ_74 sz (fs2_ (fn_ L) T p9 a9 c9 q9) hGp87 (p9 + 1) a9 (sp_ (fn_ L) (T 0 p9) a9 c9) (q9 + 1) (c9 - sp_ (fn_ L) (T 0 p9) a9 c9) (by omega)) k_X0_48 (ci := 0) (by decide) hc76 rfl rfl rfl rfl rfl ⟨rfl, rfl⟩ ⟨Nat.le_of_ble_eq_true rfl, Nat.le_of_ble_eq_true rfl⟩ (Nat.le_of_ble_eq_true rfl) ⟨Nat.le_of_ble_eq_true rfl, Nat.le_of_ble_eq_true rfl⟩ dX0_fillSides_116 (fun v88 σ_89 H locs hq hP hS => ?_)
          obtain ⟨rfl, hq2⟩ := hq
          refine W.eq (g2 := F0 m 119 ls []) rfl ?_
          obtain ⟨hGb90, hob91⟩ := hq2
          have hV92 := g_VF.off hVw75 hob91 (by omega)
          obtain ⟨s93_10, s93_11, s93_12, s93_13, s93_14, s93_15, s93_16, s93_17, s93_18, s93_19, s93_sz⟩ := id hGb90
          have ho94 := g_off.tr ho86 hob91
          refine lv_aload_n hx hb dX0_fillSides_119 rfl (lv_at hl 5 rfl) ?_
          refine lv_iload hx hb dX0_fillSides_120 (lv_at hl 0 rfl) ?_
          refine lv_iload hx hb dX0_fillSides_122 (lv_at hl 2 rfl) ?_
          refine lv_iload hx hb dX0_fillSides_124 (lv_at hl 3 rfl) ?_
          refine lv_iload hx hb dX0_fillSides_126 (lv_at hl 2 rfl) ?_
          refine lv_isub hx hb dX0_fillSides_128 ?_
          refine g_top (y := nI ((a9 + c9) - (a9 + sp_ (fn_ L) (T 0 p9) a9 c9))) (pk_sub (by omega)) ?_
          refine g_top (y := nI (c9 - sp_ (fn_ L) (T 0 p9) a9 c9)) (congrArg nI (by omega)) ?_
          refine lv_iload hx hb dX0_fillSides_129 (lv_at hl 1 rfl) ?_
          refine lv_iload hx hb dX0_fillSides_131 (lv_at hl 2 rfl) ?_
          refine lv_iload_n hx hb dX0_fillSides_133 rfl (lv_at hl 4 rfl) ?_
          refine lv_isub hx hb dX0_fillSides_134 ?_
          refine g_top (y := nI ((a9 + sp_ (fn_ L) (T 0 p9) a9 c9) - a9)) (pk_sub (by omega)) ?_
          refine g_top (y := nI (sp_ (fn_ L) (T 0 p9) a9 c9)) (congrArg nI (by omega)) ?_
          have hGp95 : g_S D σ_89 sz (bg_ (fs2_ (fn_ L) T p9 a9 c9 q9) (p9 + 1) a9 (sp_ (fn_ L) (T 0 p9) a9 c9) (q9 + 1) (c9 - sp_ (fn_ L) (T 0 p9) a9 c9)) := ⟨s93_10, s93_11, s93_12, s93_13, s93_14, s93_15, s93_16, s93_17, s93_18, s93_19, hsz⟩
          refine g_callV0 (y := yX0_begin) (n := 5) (As := [.int (nI (p9 + (2 * (sp_ (fn_ L) (T 0 p9) a9 c9)))), .int (nI (a9 + sp_ (fn_ L) (T 0 p9) a9 c9)), .int (nI (c9 - sp_ (fn_ L) (T 0 p9) a9 c9)), .int (nI (q9 + 1)), .int (nI (sp_ (fn_ L) (T 0 p9) a9 c9))]) (rest := []) hx hb hml hown hts hE hZ hP hS hl.1 (m_X0_begin l D hAD σ_89 sz (bg_ (fs2_ (fn_ L) T p9 a9 c9 q9) (p9 + 1) a9 (sp_ (fn_ L) (T 0 p9) a9 c9) (q9 + 1) (c9 - sp_ (fn_ L) (T 0 p9) a9 c9)) hGp95 (p9 + (2 * (sp_ (fn_ L) (T 0 p9) a9 c9))) (a9 + sp_ (fn_ L) (T 0 p9) a9 c9) (c9 - sp_ (fn_ L) (T 0 p9) a9 c9) (q9 + 1) (sp_ (fn_ L) (T 0 p9) a9 c9) (by omega)) k_X0_48 (ci := 0) (by decide) s93_10 rfl rfl rfl rfl rfl ⟨rfl, rfl⟩ ⟨Nat.le_of_ble_eq_true rfl, Nat.le_of_ble_eq_true rfl⟩ (Nat.le_of_ble_eq_true rfl) ⟨Nat.le_of_ble_eq_true rfl, Nat.le_of_ble_eq_true rfl⟩ dX0_fillSides_135 (fun v96 σ_97 H locs hq hP hS => ?_)
          obtain ⟨rfl, hq2⟩ := hq
          refine W.eq (g2 := F0 m 138 ls []) rfl ?_
          obtain ⟨hGb98, hob99⟩ := hq2
          have hV100 := g_VF.off hV92 hob99 (by omega)
          obtain ⟨s101_10, s101_11, s101_12, s101_13, s101_14, s101_15, s101_16, s101_17, s101_18, s101_19, s101_sz⟩ := id hGb98
          have ho102 := g_off.tr ho94 hob99
          rw [← hQ]
          exact W.vret hx hb hr (fun t ht _ => g_fin (⟨rfl, hGb98, ho102⟩) hP hS ht) hS.2.2 dX0_fillSides_138 hlocks
        · have hbf : hb_ (fn_ L (a9 + i)) (T 0 p9) = false := by cases hz : hb_ (fn_ L (a9 + i)) (T 0 p9) with | false => rfl | true => exact absurd h48 (by rw [hz]; decide)
          refine lv_iinc (v := nI (a9 + i + 1)) (lv' := [(5, .int (nI (a9 + i + 1))), (4, .int (nI (a9 + c9))), (3, .int (nI a9)), (0, .ref (ad_ D 10)), (1, .int (nI p9)), (2, .ref (ad_ D v))]) hx hb dX0_fillSides_51 hl (k := 0) rfl (g_inc (a9 + i)) (by decide) rfl (fun ls hl => ?_)
          refine lv_goto (tgt := 24) hx hb dX0_fillSides_54 (by decide) ?_
          exact ih24 (i + 1) (by omega) (by omega) (fun j hj => (by rcases Nat.lt_succ_iff_lt_or_eq.mp hj with q | q; exact hno j q; rw [q]; exact hbf)) _ _ hP hS ls (lv_sub hl [0, 1, 2, 3, 4, 5] rfl)
  exact K24 ((c9 - 0) + 1) 0 (Nat.lt_succ_self _) (Nat.zero_le _) (fun j hj => absurd hj (Nat.not_lt_zero j)) _ _ hP hS ls (lv_sub hl [0, 1, 2, 3, 4, 5] rfl)

abbrev m_X0_fillAt_rm : Room := { frames := 11, cells := 0, slots := 0, locals := 274 }
set_option maxHeartbeats 4000000 in
set_option maxRecDepth 100000 in
theorem m_X0_fillAt (l : Launch) (D : va_G) (hAD : g_AD D) (σ : Nat → va_E) (sz : Nat) (T : Nat → Nat → Int32) (hG : g_S D σ sz T) (v : Nat) (L : g_L) (F G : Nat → Int32) (p9 a9 c9 q9 : Nat) (hV : g_VF D σ v L F G) (hvd : v + 2 < 10 ∨ 19 < v) (e1 : T 1 p9 = nI a9) (e2 : T 2 p9 = nI c9) (e7 : T 7 p9 = nI q9) (hac : a9 + c9 ≤ L.length) (hc1 : 1 ≤ c9) (hp : p9 + 2 * c9 ≤ 96) (hg2 : 2 ≤ c9 → sp_ (fn_ L) (fub_ (fn_ L a9) (fn_ L (a9 + c9 - 1))) a9 c9 < c9) (hq9 : q9 < 1000) : g_M l D yX0_fillAt cX0_fillAt 7 none m_X0_fillAt_rm [.ref (ad_ D 10), .int (nI p9), .ref (ad_ D v)] σ (fun v1 σ1 => v1 = none ∧ g_S D σ1 sz (fat_ (fn_ L) T p9 a9 c9 q9) ∧ g_off 10 19 σ σ1) := by
  refine g_ofW [(0, .ref (ad_ D 10)), (1, .int (nI p9)), (2, .ref (ad_ D v))] (by decide +kernel) (Nat.le_of_ble_eq_true rfl) rfl ?_
  intro p e s m args below meth c hx hb hr hml hown hlocks hts hE hZ hP hS hnm ls hl
  have hown : s.vm.findClass RX0 = some m.cls := hown
  generalize hQ : MQ _ _ _ _ _ _ _ = Q
  obtain ⟨h10, h11, h12, h13, h14, h15, h16, h17, h18, h19, hsz⟩ := id hG
  have hvv := hV.2.2.2.2.2
  have hLn := hV.2.2.2.2.1
  refine lv_aload_n hx hb dX0_fillAt_0 rfl (lv_at hl 0 rfl) ?_
  refine g_get hx hb hts hE hown hP g_inX0 rfl (by decide) h10 1 (by decide) rfl wf_X0_15 (v := .ref (ad_ D 12)) rfl dX0_fillAt_1 ?_
  refine lv_iload_n hx hb dX0_fillAt_4 rfl (lv_at hl 1 rfl) ?_
  refine g_callN0 (y := yX2_read) (n := 2) (As := [.ref (ad_ D 12), .int (nI p9)]) (rest := []) hx hb hml hown hts hE hZ hP hS hl.1 (m_X2_read l D hAD σ 12 95 (T 1) (nI p9) (by decide) (by decide) h12) k_X0_56 rfl rfl ⟨rfl, rfl⟩ ⟨Nat.le_of_ble_eq_true rfl, Nat.le_of_ble_eq_true rfl⟩ (Nat.le_of_ble_eq_true rfl) ⟨Nat.le_of_ble_eq_true rfl, Nat.le_of_ble_eq_true rfl⟩ dX0_fillAt_5 (fun v1 σ_2 H locs hq hP hS => ?_)
  obtain ⟨rfl, rfl⟩ := hq
  refine W.eq (g2 := F0 m 8 ls [.int (rd_ (T 1) 95 (nI p9))]) rfl ?_
  refine g_top (y := nI a9) ((rd_in (by omega) (by decide)).trans e1) ?_
  refine lv_istore_n (lv' := [(3, .int (nI a9)), (0, .ref (ad_ D 10)), (1, .int (nI p9)), (2, .ref (ad_ D v))]) hx hb dX0_fillAt_8 rfl hl (by decide) rfl (fun ls hl => ?_)
  refine lv_iload_n hx hb dX0_fillAt_9 rfl (lv_at hl 0 rfl) ?_
  refine lv_aload_n hx hb dX0_fillAt_10 rfl (lv_at hl 1 rfl) ?_
  refine g_get hx hb hts hE hown hP g_inX0 rfl (by decide) h10 2 (by decide) rfl wf_X0_18 (v := .ref (ad_ D 13)) rfl dX0_fillAt_11 ?_
  refine lv_iload_n hx hb dX0_fillAt_14 rfl (lv_at hl 2 rfl) ?_
  refine g_callN0 (y := yX2_read) (n := 2) (As := [.ref (ad_ D 13), .int (nI p9)]) (rest := [.int (nI a9)]) hx hb hml hown hts hE hZ hP hS hl.1 (m_X2_read l D hAD σ 13 95 (T 2) (nI p9) (by decide) (by decide) h13) k_X0_56 rfl rfl ⟨rfl, rfl⟩ ⟨Nat.le_of_ble_eq_true rfl, Nat.le_of_ble_eq_true rfl⟩ (Nat.le_of_ble_eq_true rfl) ⟨Nat.le_of_ble_eq_true rfl, Nat.le_of_ble_eq_true rfl⟩ dX0_fillAt_15 (fun v3 σ_4 H locs hq hP hS => ?_)
  obtain ⟨rfl, rfl⟩ := hq
  refine W.eq (g2 := F0 m 18 ls [.int (rd_ (T 2) 95 (nI p9)), .int (nI a9)]) rfl ?_
  refine g_top (y := nI c9) ((rd_in (by omega) (by decide)).trans e2) ?_
  refine lv_iadd hx hb dX0_fillAt_18 ?_
  refine g_top (y := nI (a9 + c9)) (nI_add a9 c9) ?_
  refine lv_iconst (v := nI 1) hx hb dX0_fillAt_19 (by decide) ?_
  refine lv_isub hx hb dX0_fillAt_20 ?_
  refine g_top (y := nI ((a9 + c9) - 1)) (pk_sub (by omega)) ?_
  refine lv_istore (lv' := [(4, .int (nI ((a9 + c9) - 1))), (3, .int (nI a9)), (0, .ref (ad_ D 10)), (1, .int (nI p9)), (2, .ref (ad_ D v))]) hx hb dX0_fillAt_21 hl (by decide) rfl (fun ls hl => ?_)
  refine lv_aload_n hx hb dX0_fillAt_23 rfl (lv_at hl 4 rfl) ?_
  refine lv_iload_n hx hb dX0_fillAt_24 rfl (lv_at hl 1 rfl) ?_
  refine g_callV0 (y := yX1_nameAt) (n := 1) (As := [.int (nI a9)]) (rest := []) hx hb hml hown hts hE hZ hP hS hl.1 (m_X1_nameAtN l D hAD σ v L F G hV a9 (by omega)) k_X0_85 (ci := 1) (by omega) hV.1 rfl rfl rfl rfl rfl ⟨rfl, rfl⟩ ⟨Nat.le_of_ble_eq_true rfl, Nat.le_of_ble_eq_true rfl⟩ (Nat.le_of_ble_eq_true rfl) ⟨Nat.le_of_ble_eq_true rfl, Nat.le_of_ble_eq_true rfl⟩ dX0_fillAt_25 (fun v5 σ_6 H locs hq hP hS => ?_)
  obtain ⟨rfl, rfl⟩ := hq
  refine W.eq (g2 := F0 m 28 ls [.int (fn_ L a9)]) rfl ?_
  refine lv_istore (lv' := [(5, .int (fn_ L a9)), (4, .int (nI ((a9 + c9) - 1))), (3, .int (nI a9)), (0, .ref (ad_ D 10)), (1, .int (nI p9)), (2, .ref (ad_ D v))]) hx hb dX0_fillAt_28 hl (by decide) rfl (fun ls hl => ?_)
  refine lv_aload_n hx hb dX0_fillAt_30 rfl (lv_at hl 5 rfl) ?_
  refine lv_iload hx hb dX0_fillAt_31 (lv_at hl 1 rfl) ?_
  refine g_callV0 (y := yX1_nameAt) (n := 1) (As := [.int (nI ((a9 + c9) - 1))]) (rest := []) hx hb hml hown hts hE hZ hP hS hl.1 (m_X1_nameAtN l D hAD σ v L F G hV ((a9 + c9) - 1) (by omega)) k_X0_85 (ci := 1) (by omega) hV.1 rfl rfl rfl rfl rfl ⟨rfl, rfl⟩ ⟨Nat.le_of_ble_eq_true rfl, Nat.le_of_ble_eq_true rfl⟩ (Nat.le_of_ble_eq_true rfl) ⟨Nat.le_of_ble_eq_true rfl, Nat.le_of_ble_eq_true rfl⟩ dX0_fillAt_33 (fun v7 σ_8 H locs hq hP hS => ?_)
  obtain ⟨rfl, rfl⟩ := hq
  refine W.eq (g2 := F0 m 36 ls [.int (fn_ L ((a9 + c9) - 1))]) rfl ?_
  refine lv_istore (lv' := [(6, .int (fn_ L ((a9 + c9) - 1))), (5, .int (fn_ L a9)), (4, .int (nI ((a9 + c9) - 1))), (3, .int (nI a9)), (0, .ref (ad_ D 10)), (1, .int (nI p9)), (2, .ref (ad_ D v))]) hx hb dX0_fillAt_36 hl (by decide) rfl (fun ls hl => ?_)
  refine lv_aload_n hx hb dX0_fillAt_38 rfl (lv_at hl 4 rfl) ?_
  refine g_get hx hb hts hE hown hP g_inX0 rfl (by decide) h10 3 (by decide) rfl wf_X0_21 (v := .ref (ad_ D 14)) rfl dX0_fillAt_39 ?_
  refine lv_iload_n hx hb dX0_fillAt_42 rfl (lv_at hl 5 rfl) ?_
  refine lv_iload hx hb dX0_fillAt_43 (lv_at hl 1 rfl) ?_
  refine g_callN0 (y := yX2_write) (n := 3) (As := [.ref (ad_ D 14), .int (nI p9), .int (fn_ L a9)]) (rest := []) hx hb hml hown hts hE hZ hP hS hl.1 (m_X2_write l D hAD σ 14 95 (T 3) (nI p9) (fn_ L a9) (by decide) (by decide) h14) k_X0_81 rfl rfl ⟨rfl, rfl⟩ ⟨Nat.le_of_ble_eq_true rfl, Nat.le_of_ble_eq_true rfl⟩ (Nat.le_of_ble_eq_true rfl) ⟨Nat.le_of_ble_eq_true rfl, Nat.le_of_ble_eq_true rfl⟩ dX0_fillAt_45 (fun v9 σ_10 H locs hq hP hS => ?_)
  obtain ⟨rfl, hw, hfr⟩ := hq
  refine W.eq (g2 := F0 m 48 ls []) rfl ?_
  have hVw11 := g_VF.one hV hfr (by omega)
  rw [wr_in (by omega) (by decide)] at hw
  have hc12 := (hfr 10 (by decide)).trans h10
  have hc13 := (hfr 11 (by decide)).trans h11
  have hc14 := (hfr 12 (by decide)).trans h12
  have hc15 := (hfr 13 (by decide)).trans h13
  have hc16 := hw
  have hc17 := (hfr 15 (by decide)).trans h15
  have hc18 := (hfr 16 (by decide)).trans h16
  have hc19 := (hfr 17 (by decide)).trans h17
  have hc20 := (hfr 18 (by decide)).trans h18
  have hc21 := (hfr 19 (by decide)).trans h19
  have ho22 := g_off.one (g_off.rf (lo := 10) (hi := 19) (σ := σ)) hfr (by omega) (by omega)
  refine lv_aload_n hx hb dX0_fillAt_48 rfl (lv_at hl 4 rfl) ?_
  refine g_get hx hb hts hE hown hP g_inX0 rfl (by decide) hc12 4 (by decide) rfl wf_X0_24 (v := .ref (ad_ D 15)) rfl dX0_fillAt_49 ?_
  refine lv_iload_n hx hb dX0_fillAt_52 rfl (lv_at hl 5 rfl) ?_
  refine lv_iload hx hb dX0_fillAt_53 (lv_at hl 0 rfl) ?_
  refine g_callN0 (y := yX2_write) (n := 3) (As := [.ref (ad_ D 15), .int (nI p9), .int (fn_ L ((a9 + c9) - 1))]) (rest := []) hx hb hml hown hts hE hZ hP hS hl.1 (m_X2_write l D hAD σ_10 15 95 (T 4) (nI p9) (fn_ L ((a9 + c9) - 1)) (by decide) (by decide) hc17) k_X0_81 rfl rfl ⟨rfl, rfl⟩ ⟨Nat.le_of_ble_eq_true rfl, Nat.le_of_ble_eq_true rfl⟩ (Nat.le_of_ble_eq_true rfl) ⟨Nat.le_of_ble_eq_true rfl, Nat.le_of_ble_eq_true rfl⟩ dX0_fillAt_55 (fun v23 σ_24 H locs hq hP hS => ?_)
  obtain ⟨rfl, hw, hfr⟩ := hq
  refine W.eq (g2 := F0 m 58 ls []) rfl ?_
  have hVw25 := g_VF.one hVw11 hfr (by omega)
  rw [wr_in (by omega) (by decide)] at hw
  have hc26 := (hfr 10 (by decide)).trans hc12
  have hc27 := (hfr 11 (by decide)).trans hc13
  have hc28 := (hfr 12 (by decide)).trans hc14
  have hc29 := (hfr 13 (by decide)).trans hc15
  have hc30 := (hfr 14 (by decide)).trans hc16
  have hc31 := hw
  have hc32 := (hfr 16 (by decide)).trans hc18
  have hc33 := (hfr 17 (by decide)).trans hc19
  have hc34 := (hfr 18 (by decide)).trans hc20
  have hc35 := (hfr 19 (by decide)).trans hc21
  have ho36 := g_off.one ho22 hfr (by omega) (by omega)
  refine lv_aload_n hx hb dX0_fillAt_58 rfl (lv_at hl 4 rfl) ?_
  refine g_get hx hb hts hE hown hP g_inX0 rfl (by decide) hc26 0 (by decide) rfl wf_X0_9 (v := .ref (ad_ D 11)) rfl dX0_fillAt_59 ?_
  refine lv_iload_n hx hb dX0_fillAt_62 rfl (lv_at hl 5 rfl) ?_
  refine lv_iload hx hb dX0_fillAt_63 (lv_at hl 1 rfl) ?_
  refine lv_iload hx hb dX0_fillAt_65 (lv_at hl 0 rfl) ?_
  refine g_callN0 (y := yX2_firstUnlikeBit) (n := 2) (As := [.int (fn_ L a9), .int (fn_ L ((a9 + c9) - 1))]) (rest := [.int (nI p9), .ref (ad_ D 11)]) hx hb hml hown hts hE hZ hP hS hl.1 (m_X2_firstUnlikeBit l D hAD σ_24 (fn_ L a9) (fn_ L ((a9 + c9) - 1))) k_X0_64 rfl rfl ⟨rfl, rfl⟩ ⟨Nat.le_of_ble_eq_true rfl, Nat.le_of_ble_eq_true rfl⟩ (Nat.le_of_ble_eq_true rfl) ⟨Nat.le_of_ble_eq_true rfl, Nat.le_of_ble_eq_true rfl⟩ dX0_fillAt_67 (fun v37 σ_38 H locs hq hP hS => ?_)
  obtain ⟨rfl, rfl⟩ := hq
  refine W.eq (g2 := F0 m 70 ls [.int (fub_ (fn_ L a9) (fn_ L ((a9 + c9) - 1))), .int (nI p9), .ref (ad_ D 11)]) rfl ?_
  refine g_callN0 (y := yX2_write) (n := 3) (As := [.ref (ad_ D 11), .int (nI p9), .int (fub_ (fn_ L a9) (fn_ L ((a9 + c9) - 1)))]) (rest := []) hx hb hml hown hts hE hZ hP hS hl.1 (m_X2_write l D hAD σ_24 11 95 (T 0) (nI p9) (fub_ (fn_ L a9) (fn_ L ((a9 + c9) - 1))) (by decide) (by decide) hc27) k_X0_81 rfl rfl ⟨rfl, rfl⟩ ⟨Nat.le_of_ble_eq_true rfl, Nat.le_of_ble_eq_true rfl⟩ (Nat.le_of_ble_eq_true rfl) ⟨Nat.le_of_ble_eq_true rfl, Nat.le_of_ble_eq_true rfl⟩ dX0_fillAt_70 (fun v39 σ_40 H locs hq hP hS => ?_)
  obtain ⟨rfl, hw, hfr⟩ := hq
  refine W.eq (g2 := F0 m 73 ls []) rfl ?_
  have hVw41 := g_VF.one hVw25 hfr (by omega)
  rw [wr_in (by omega) (by decide)] at hw
  have hc42 := (hfr 10 (by decide)).trans hc26
  have hc43 := hw
  have hc44 := (hfr 12 (by decide)).trans hc28
  have hc45 := (hfr 13 (by decide)).trans hc29
  have hc46 := (hfr 14 (by decide)).trans hc30
  have hc47 := (hfr 15 (by decide)).trans hc31
  have hc48 := (hfr 16 (by decide)).trans hc32
  have hc49 := (hfr 17 (by decide)).trans hc33
  have hc50 := (hfr 18 (by decide)).trans hc34
  have hc51 := (hfr 19 (by decide)).trans hc35
  have ho52 := g_off.one ho36 hfr (by omega) (by omega)
  refine lv_aload_n hx hb dX0_fillAt_73 rfl (lv_at hl 4 rfl) ?_
  refine g_get hx hb hts hE hown hP g_inX0 rfl (by decide) hc42 5 (by decide) rfl wf_X0_27 (v := .ref (ad_ D 16)) rfl dX0_fillAt_74 ?_
  refine lv_iload_n hx hb dX0_fillAt_77 rfl (lv_at hl 5 rfl) ?_
  refine lv_iconst (v := (-1)) hx hb dX0_fillAt_78 (by decide) ?_
  refine g_callN0 (y := yX2_write) (n := 3) (As := [.ref (ad_ D 16), .int (nI p9), .int ((-1))]) (rest := []) hx hb hml hown hts hE hZ hP hS hl.1 (m_X2_write l D hAD σ_40 16 95 (T 5) (nI p9) ((-1)) (by decide) (by decide) hc48) k_X0_81 rfl rfl ⟨rfl, rfl⟩ ⟨Nat.le_of_ble_eq_true rfl, Nat.le_of_ble_eq_true rfl⟩ (Nat.le_of_ble_eq_true rfl) ⟨Nat.le_of_ble_eq_true rfl, Nat.le_of_ble_eq_true rfl⟩ dX0_fillAt_79 (fun v53 σ_54 H locs hq hP hS => ?_)
  obtain ⟨rfl, hw, hfr⟩ := hq
  refine W.eq (g2 := F0 m 82 ls []) rfl ?_
  have hVw55 := g_VF.one hVw41 hfr (by omega)
  rw [wr_in (by omega) (by decide)] at hw
  have hc56 := (hfr 10 (by decide)).trans hc42
  have hc57 := (hfr 11 (by decide)).trans hc43
  have hc58 := (hfr 12 (by decide)).trans hc44
  have hc59 := (hfr 13 (by decide)).trans hc45
  have hc60 := (hfr 14 (by decide)).trans hc46
  have hc61 := (hfr 15 (by decide)).trans hc47
  have hc62 := hw
  have hc63 := (hfr 17 (by decide)).trans hc49
  have hc64 := (hfr 18 (by decide)).trans hc50
  have hc65 := (hfr 19 (by decide)).trans hc51
  have ho66 := g_off.one ho52 hfr (by omega) (by omega)
  refine lv_aload_n hx hb dX0_fillAt_82 rfl (lv_at hl 4 rfl) ?_
  refine g_get hx hb hts hE hown hP g_inX0 rfl (by decide) hc56 6 (by decide) rfl wf_X0_30 (v := .ref (ad_ D 17)) rfl dX0_fillAt_83 ?_
  refine lv_iload_n hx hb dX0_fillAt_86 rfl (lv_at hl 5 rfl) ?_
  refine lv_iconst (v := (-1)) hx hb dX0_fillAt_87 (by decide) ?_
  refine g_callN0 (y := yX2_write) (n := 3) (As := [.ref (ad_ D 17), .int (nI p9), .int ((-1))]) (rest := []) hx hb hml hown hts hE hZ hP hS hl.1 (m_X2_write l D hAD σ_54 17 95 (T 6) (nI p9) ((-1)) (by decide) (by decide) hc63) k_X0_81 rfl rfl ⟨rfl, rfl⟩ ⟨Nat.le_of_ble_eq_true rfl, Nat.le_of_ble_eq_true rfl⟩ (Nat.le_of_ble_eq_true rfl) ⟨Nat.le_of_ble_eq_true rfl, Nat.le_of_ble_eq_true rfl⟩ dX0_fillAt_88 (fun v67 σ_68 H locs hq hP hS => ?_)
  obtain ⟨rfl, hw, hfr⟩ := hq
  refine W.eq (g2 := F0 m 91 ls []) rfl ?_
  have hVw69 := g_VF.one hVw55 hfr (by omega)
  rw [wr_in (by omega) (by decide)] at hw
  have hc70 := (hfr 10 (by decide)).trans hc56
  have hc71 := (hfr 11 (by decide)).trans hc57
  have hc72 := (hfr 12 (by decide)).trans hc58
  have hc73 := (hfr 13 (by decide)).trans hc59
  have hc74 := (hfr 14 (by decide)).trans hc60
  have hc75 := (hfr 15 (by decide)).trans hc61
  have hc76 := (hfr 16 (by decide)).trans hc62
  have hc77 := hw
  have hc78 := (hfr 18 (by decide)).trans hc64
  have hc79 := (hfr 19 (by decide)).trans hc65
  have ho80 := g_off.one ho66 hfr (by omega) (by omega)
  refine lv_iload_n hx hb dX0_fillAt_91 rfl (lv_at hl 3 rfl) ?_
  refine lv_iload hx hb dX0_fillAt_92 (lv_at hl 2 rfl) ?_
  refine lv_icmp_ge (tgt := 103) hx hb dX0_fillAt_94 (by decide) (fun h94 => ?_) (fun h94 => ?_)
  · have hb94 := g_le (a := (a9 + c9) - 1) (b := a9) h94 (by omega) (by omega)
    have hGp81 : g_S D σ_68 sz (fa0_ (fn_ L) T p9 a9 c9) := ⟨hc70, hc71, hc72, hc73, hc74, hc75, hc76, hc77, hc78, hc79, hsz⟩
    rw [← hQ]
    exact W.vret hx hb hr (fun t ht _ => g_fin (⟨rfl, by rw [fat_, if_neg (by omega)]; exact hGp81, ho80⟩) hP hS ht) hS.2.2 dX0_fillAt_103 hlocks
  · have hb94 := g_nle (a := (a9 + c9) - 1) (b := a9) h94 (by omega) (by omega)
    have h2c : 2 ≤ c9 := by omega
    have hg1 : sp_ (fn_ L) (fa0_ (fn_ L) T p9 a9 c9 0 p9) a9 c9 < c9 := by rw [show fa0_ (fn_ L) T p9 a9 c9 0 p9 = fub_ (fn_ L a9) (fn_ L (a9 + c9 - 1)) from upd_at]; exact hg2 h2c
    refine lv_aload_n hx hb dX0_fillAt_97 rfl (lv_at hl 4 rfl) ?_
    refine lv_iload_n hx hb dX0_fillAt_98 rfl (lv_at hl 5 rfl) ?_
    refine lv_aload_n hx hb dX0_fillAt_99 rfl (lv_at hl 6 rfl) ?_
    have hGp82 : g_S D σ_68 sz (fa0_ (fn_ L) T p9 a9 c9) := ⟨hc70, hc71, hc72, hc73, hc74, hc75, hc76, hc77, hc78, hc79, hsz⟩
    refine g_callV0 (y := yX0_fillSides) (n := 2) (As := [.int (nI p9), .ref (ad_ D v)]) (rest := []) hx hb hml hown hts hE hZ hP hS hl.1 (m_X0_fillSides l D hAD σ_68 sz (fa0_ (fn_ L) T p9 a9 c9) hGp82 v L F G p9 a9 c9 q9 hVw69 hvd e1 e2 e7 hac hp hg1 h2c hq9) k_X0_88 (ci := 0) (by decide) hc70 rfl rfl rfl rfl rfl ⟨rfl, rfl⟩ ⟨Nat.le_of_ble_eq_true rfl, Nat.le_of_ble_eq_true rfl⟩ (Nat.le_of_ble_eq_true rfl) ⟨Nat.le_of_ble_eq_true rfl, Nat.le_of_ble_eq_true rfl⟩ dX0_fillAt_100 (fun v83 σ_84 H locs hq hP hS => ?_)
    obtain ⟨rfl, hq2⟩ := hq
    refine W.eq (g2 := F0 m 103 ls []) rfl ?_
    obtain ⟨hGb85, hob86⟩ := hq2
    have hV87 := g_VF.off hVw69 hob86 (by omega)
    obtain ⟨s88_10, s88_11, s88_12, s88_13, s88_14, s88_15, s88_16, s88_17, s88_18, s88_19, s88_sz⟩ := id hGb85
    have ho89 := g_off.tr ho80 hob86
    rw [← hQ]
    exact W.vret hx hb hr (fun t ht _ => g_fin (⟨rfl, by rw [fat_, if_pos h2c]; exact hGb85, ho89⟩) hP hS ht) hS.2.2 dX0_fillAt_103 hlocks
end
section
/-! PURE: the tree of signs, as a row -/
abbrev g_Nd : Type := Nat × Nat × Nat × Nat
def ms_ (f : Nat → Int32) (a c : Nat) : Nat := sp_ f (fub_ (f a) (f (a + c - 1))) a c
def tr_ (f : Nat → Int32) : Nat → Nat → Nat → Nat → Nat → List g_Nd
  | 0, _, _, _, _ => []
  | k + 1, a, c, q, b => (a, c, q, b) :: (if 2 ≤ c then tr_ f k a (ms_ f a c) (q + 1) (c - ms_ f a c) ++ tr_ f k (a + ms_ f a c) (c - ms_ f a c) (q + 1) (ms_ f a c) else [])
/-- every part of two names or more is parted by its post -/
def gs_ (f : Nat → Int32) (n : Nat) : Prop := ∀ a c, 2 ≤ c → a + c ≤ n → 1 ≤ ms_ f a c ∧ ms_ f a c < c
theorem tr_len {f : Nat → Int32} {n : Nat} (hg : gs_ f n) : ∀ (k a c q b : Nat), 1 ≤ c → c ≤ k → a + c ≤ n → (tr_ f k a c q b).length = 2 * c - 1
  | 0, a, c, q, b, h1, h2, _ => absurd h1 (by omega)
  | k + 1, a, c, q, b, h1, h2, h3 => by
    rw [tr_, List.length_cons]
    by_cases h : 2 ≤ c
    · obtain ⟨g1, g2⟩ := hg a c h h3
      rw [if_pos h, List.length_append, tr_len hg k a _ _ _ g1 (by omega) (by omega), tr_len hg k (a + ms_ f a c) (c - ms_ f a c) _ _ (by omega) (by omega) (by omega)]
      omega
    · rw [if_neg h]
      simp
      omega
theorem tr_hd {f : Nat → Int32} {k a c q b : Nat} (h : 1 ≤ k) : (tr_ f k a c q b)[0]? = some (a, c, q, b) := by
  obtain ⟨j, rfl⟩ : ∃ j, k = j + 1 := ⟨k - 1, by omega⟩
  rw [tr_]; rfl
theorem ix_l {α : Type} {x : α} {X Y : List α} {i : Nat} (h : i < X.length) : (x :: (X ++ Y))[i + 1]? = X[i]? := by
  rw [List.getElem?_cons_succ, List.getElem?_append_left h]
theorem ix_r {α : Type} {x : α} {X Y : List α} {i : Nat} (h : X.length ≤ i) : (x :: (X ++ Y))[i + 1]? = Y[i - X.length]? := by
  rw [List.getElem?_cons_succ, List.getElem?_append_right h]
theorem ix_some {α : Type} {X : List α} {i : Nat} {y : α} (h : X[i]? = some y) : i < X.length := (List.getElem?_eq_some_iff.mp h).1
theorem tr_node {f : Nat → Int32} {n : Nat} (hg : gs_ f n) : ∀ (k a c q b : Nat), 1 ≤ c → c ≤ k → a + c ≤ n → ∀ (p : Nat) (nd : g_Nd), (tr_ f k a c q b)[p]? = some nd →
    1 ≤ nd.2.1 ∧ a ≤ nd.1 ∧ nd.1 + nd.2.1 ≤ a + c ∧ q ≤ nd.2.2.1 ∧ nd.2.2.1 + nd.2.1 ≤ q + c ∧ p + 2 * nd.2.1 ≤ 2 * c ∧ (2 ≤ nd.2.1 → (tr_ f k a c q b)[p + 1]? = some (nd.1, ms_ f nd.1 nd.2.1, nd.2.2.1 + 1, nd.2.1 - ms_ f nd.1 nd.2.1) ∧ (tr_ f k a c q b)[p + 2 * ms_ f nd.1 nd.2.1]? = some (nd.1 + ms_ f nd.1 nd.2.1, nd.2.1 - ms_ f nd.1 nd.2.1, nd.2.2.1 + 1, ms_ f nd.1 nd.2.1))
  | 0, a, c, q, b, h1, h2, _ => absurd h1 (by omega)
  | k + 1, a, c, q, b, h1, h2, h3 => by
    intro p nd hp
    rw [tr_] at hp ⊢
    by_cases h : 2 ≤ c
    · obtain ⟨g1, g2⟩ := hg a c h h3
      rw [if_pos h] at hp ⊢
      have e1 := tr_len hg k a (ms_ f a c) (q + 1) (c - ms_ f a c) g1 (by omega) (by omega)
      have e2 := tr_len hg k (a + ms_ f a c) (c - ms_ f a c) (q + 1) (ms_ f a c) (by omega) (by omega) (by omega)
      have i1 := tr_node hg k a (ms_ f a c) (q + 1) (c - ms_ f a c) g1 (by omega) (by omega)
      have i2 := tr_node hg k (a + ms_ f a c) (c - ms_ f a c) (q + 1) (ms_ f a c) (by omega) (by omega) (by omega)
      have z1 : (tr_ f k a (ms_ f a c) (q + 1) (c - ms_ f a c))[0]? = _ := tr_hd (by omega)
      have z2 : (tr_ f k (a + ms_ f a c) (c - ms_ f a c) (q + 1) (ms_ f a c))[0]? = _ := tr_hd (by omega)
      generalize tr_ f k a (ms_ f a c) (q + 1) (c - ms_ f a c) = X at hp e1 i1 z1 ⊢
      generalize tr_ f k (a + ms_ f a c) (c - ms_ f a c) (q + 1) (ms_ f a c) = Y at hp e2 i2 z2 ⊢
      cases p with
      | zero =>
        cases hp
        refine ⟨h1, Nat.le_refl _, Nat.le_refl _, Nat.le_refl _, Nat.le_refl _, by dsimp only; omega, fun _ => ⟨?_, ?_⟩⟩
        · rw [ix_l (by omega)]; exact z1
        · obtain ⟨j, hj⟩ : ∃ j, 0 + 2 * ms_ f a c = j + 1 := ⟨2 * ms_ f a c - 1, by omega⟩
          show ((a, c, q, b) :: (X ++ Y))[0 + 2 * ms_ f a c]? = _
          rw [hj, ix_r (by omega), show j - X.length = 0 by omega]
          exact z2
      | succ p =>
        by_cases hpl : p < X.length
        · rw [ix_l hpl] at hp
          obtain ⟨b1, b2, b3, b4, b5, b6, b7⟩ := i1 p nd hp
          refine ⟨b1, by omega, by omega, by omega, by omega, by omega, fun hc => ?_⟩
          obtain ⟨d1, d2⟩ := b7 hc
          rw [show p + 1 + 2 * ms_ f nd.1 nd.2.1 = (p + 2 * ms_ f nd.1 nd.2.1) + 1 by omega, ix_l (ix_some d1), ix_l (ix_some d2)]
          exact ⟨d1, d2⟩
        · rw [ix_r (by omega)] at hp
          obtain ⟨b1, b2, b3, b4, b5, b6, b7⟩ := i2 _ nd hp
          refine ⟨b1, by omega, by omega, by omega, by omega, by omega, fun hc => ?_⟩
          obtain ⟨d1, d2⟩ := b7 hc
          rw [show p + 1 + 2 * ms_ f nd.1 nd.2.1 = (p + 2 * ms_ f nd.1 nd.2.1) + 1 by omega, ix_r (by omega), ix_r (by omega), show p + 1 - X.length = p - X.length + 1 by omega, show p + 2 * ms_ f nd.1 nd.2.1 - X.length = p - X.length + 2 * ms_ f nd.1 nd.2.1 by omega]
          exact ⟨d1, d2⟩
    · rw [if_neg h] at hp ⊢
      cases p with
      | zero =>
        cases hp
        exact ⟨h1, Nat.le_refl _, Nat.le_refl _, Nat.le_refl _, Nat.le_refl _, by dsimp only; omega, fun hc => absurd hc h⟩
      | succ p => simp at hp
theorem tr_par {f : Nat → Int32} {n : Nat} (hg : gs_ f n) : ∀ (k a c q b : Nat), 1 ≤ c → c ≤ k → a + c ≤ n → ∀ (p : Nat) (nd : g_Nd), 0 < p → (tr_ f k a c q b)[p]? = some nd →
    ∃ (p' : Nat) (nd' : g_Nd), p' < p ∧ (tr_ f k a c q b)[p']? = some nd' ∧ 2 ≤ nd'.2.1 ∧ (p = p' + 1 ∨ p = p' + 2 * ms_ f nd'.1 nd'.2.1)
  | 0, a, c, q, b, h1, h2, _ => absurd h1 (by omega)
  | k + 1, a, c, q, b, h1, h2, h3 => by
    intro p nd h0 hp
    rw [tr_] at hp ⊢
    by_cases h : 2 ≤ c
    · obtain ⟨g1, g2⟩ := hg a c h h3
      rw [if_pos h] at hp ⊢
      have e1 := tr_len hg k a (ms_ f a c) (q + 1) (c - ms_ f a c) g1 (by omega) (by omega)
      have i1 := tr_par hg k a (ms_ f a c) (q + 1) (c - ms_ f a c) g1 (by omega) (by omega)
      have i2 := tr_par hg k (a + ms_ f a c) (c - ms_ f a c) (q + 1) (ms_ f a c) (by omega) (by omega) (by omega)
      generalize tr_ f k a (ms_ f a c) (q + 1) (c - ms_ f a c) = X at hp e1 i1 ⊢
      generalize tr_ f k (a + ms_ f a c) (c - ms_ f a c) (q + 1) (ms_ f a c) = Y at hp i2 ⊢
      obtain ⟨i, rfl⟩ : ∃ i, p = i + 1 := ⟨p - 1, by omega⟩
      by_cases hz : i = 0
      · subst hz
        exact ⟨0, (a, c, q, b), by omega, rfl, h, Or.inl rfl⟩
      · by_cases hil : i < X.length
        · rw [ix_l hil] at hp
          obtain ⟨p', nd', d1, d2, d3, d4⟩ := i1 i nd (by omega) hp
          exact ⟨p' + 1, nd', by omega, by rw [ix_l (ix_some d2)]; exact d2, d3, d4.elim (fun e => Or.inl (by omega)) (fun e => Or.inr (by omega))⟩
        · rw [ix_r (by omega)] at hp
          by_cases hy : i - X.length = 0
          · exact ⟨0, (a, c, q, b), by omega, rfl, h, Or.inr (by show i + 1 = 0 + 2 * ms_ f a c; omega)⟩
          · obtain ⟨p', nd', d1, d2, d3, d4⟩ := i2 _ nd (by omega) hp
            exact ⟨p' + X.length + 1, nd', by omega, by rw [ix_r (by omega), show p' + X.length - X.length = p' by omega]; exact d2, d3, d4.elim (fun e => Or.inl (by omega)) (fun e => Or.inr (by omega))⟩
    · rw [if_neg h] at hp
      obtain ⟨i, rfl⟩ : ∃ i, p = i + 1 := ⟨p - 1, by omega⟩
      simp at hp
/-- what is told of the sign at the place q -/
def tv_ (f : Nat → Int32) (nd : g_Nd) (q : Nat) (j : Nat) : Int32 := match j with
  | 0 => fub_ (f nd.1) (f (nd.1 + nd.2.1 - 1))
  | 1 => nI nd.1
  | 2 => nI nd.2.1
  | 3 => f nd.1
  | 4 => f (nd.1 + nd.2.1 - 1)
  | 5 => if 2 ≤ nd.2.1 then nI (q + 1) else -1
  | 6 => if 2 ≤ nd.2.1 then nI (q + 2 * ms_ f nd.1 nd.2.1) else -1
  | 7 => nI nd.2.2.1
  | _ => nI nd.2.2.2
abbrev tN_ (f : Nat → Int32) (n : Nat) : List g_Nd := tr_ f n 0 n 0 0
def zs_ (n : Nat) : Nat := if n = 0 then 0 else 2 * n - 1
def tB_ (f : Nat → Int32) (n : Nat) (T : Nat → Nat → Int32) : Prop := ∀ (q : Nat) (nd : g_Nd), (tN_ f n)[q]? = some nd → ∀ j, j < 9 → T j q = tv_ f nd q j
def bgn_ (f : Nat → Int32) (n p q : Nat) : Prop := q = 0 ∨ ∃ (p' : Nat) (nd' : g_Nd), p' < p ∧ (tN_ f n)[p']? = some nd' ∧ 2 ≤ nd'.2.1 ∧ (q = p' + 1 ∨ q = p' + 2 * ms_ f nd'.1 nd'.2.1)
def tI_ (f : Nat → Int32) (n p : Nat) (T : Nat → Nat → Int32) : Prop := (∀ (q : Nat) (nd : g_Nd), q < p → (tN_ f n)[q]? = some nd → ∀ j, j < 9 → T j q = tv_ f nd q j) ∧ ∀ (q : Nat) (nd : g_Nd), (tN_ f n)[q]? = some nd → bgn_ f n p q → T 1 q = nI nd.1 ∧ T 2 q = nI nd.2.1 ∧ T 7 q = nI nd.2.2.1 ∧ T 8 q = nI nd.2.2.2
theorem tN_len {f : Nat → Int32} {n : Nat} (hg : gs_ f n) : (tN_ f n).length = zs_ n := by
  unfold zs_
  split
  · next h => subst h; rfl
  · exact tr_len hg n 0 n 0 0 (by omega) (Nat.le_refl n) (by omega)
theorem tN_pos {f : Nat → Int32} {n q : Nat} {nd : g_Nd} (h : (tN_ f n)[q]? = some nd) : 1 ≤ n := by
  cases n with
  | zero => simp [tN_, tr_] at h
  | succ n => omega
theorem tI_end {f : Nat → Int32} {n : Nat} {T : Nat → Nat → Int32} (hg : gs_ f n) (h : tI_ f n (zs_ n) T) : tB_ f n T := fun q nd hq j hj => h.1 q nd (by rw [← tN_len hg]; exact ix_some hq) hq j hj
theorem tI_0 {f : Nat → Int32} {n : Nat} {T : Nat → Nat → Int32} (h : 1 ≤ n) : tI_ f n 0 (bg_ T 0 0 n 0 0) := by
  refine ⟨fun q nd hq => absurd hq (Nat.not_lt_zero q), fun q nd hq hb => ?_⟩
  rcases hb with rfl | ⟨p', nd', h1, -⟩
  · rw [tr_hd h] at hq
    cases hq
    exact ⟨upd_at, upd_at, upd_at, upd_at⟩
  · exact absurd h1 (Nat.not_lt_zero _)
theorem tI_know {f : Nat → Int32} {n p : Nat} {T : Nat → Nat → Int32} {nd : g_Nd} (hg : gs_ f n) (h : tI_ f n p T) (hp : (tN_ f n)[p]? = some nd) : T 1 p = nI nd.1 ∧ T 2 p = nI nd.2.1 ∧ T 7 p = nI nd.2.2.1 ∧ T 8 p = nI nd.2.2.2 := by
  refine h.2 p nd hp ?_
  by_cases h0 : p = 0
  · exact Or.inl h0
  · exact Or.inr (tr_par hg n 0 n 0 0 (tN_pos hp) (Nat.le_refl n) (by omega) p nd (by omega) hp)
theorem tI_step {f : Nat → Int32} {n p : Nat} {T : Nat → Nat → Int32} {nd : g_Nd} (hg : gs_ f n) (h : tI_ f n p T) (hp : (tN_ f n)[p]? = some nd) : tI_ f n (p + 1) (fat_ f T p nd.1 nd.2.1 nd.2.2.1) := by
  have hn := tN_pos hp
  obtain ⟨b1, b2, b3, b4, b5, b6, b7⟩ := tr_node hg n 0 n 0 0 hn (Nat.le_refl n) (by omega) p nd hp
  obtain ⟨k1, k2, k7, k8⟩ := tI_know hg h hp
  obtain ⟨a, c, q0, b0⟩ := nd
  dsimp only at b1 b2 b3 b4 b5 b6 b7 k1 k2 k7 k8 ⊢
  by_cases hc : 2 ≤ c
  · obtain ⟨d1, d2⟩ := b7 hc
    obtain ⟨g1, g2⟩ := hg a c hc (by omega)
    have em : sp_ f (fa0_ f T p a c 0 p) a c = ms_ f a c := by rw [show fa0_ f T p a c 0 p = fub_ (f a) (f (a + c - 1)) from upd_at]; rfl
    rw [fat_, if_pos hc, fsd_, em]
    refine ⟨fun q nd hq hN j hj => ?_, fun q nd hN hb => ?_⟩
    · by_cases e : q = p
      · subst e
        have hnd : nd = (a, c, q0, b0) := Option.some.inj (hN.symm.trans hp)
        subst hnd
        rcases (show j = 0 ∨ j = 1 ∨ j = 2 ∨ j = 3 ∨ j = 4 ∨ j = 5 ∨ j = 6 ∨ j = 7 ∨ j = 8 by omega) with rfl | rfl | rfl | rfl | rfl | rfl | rfl | rfl | rfl
        · exact upd_at
        · exact (upd_ne (by omega)).trans ((upd_ne (by omega)).trans k1)
        · exact (upd_ne (by omega)).trans ((upd_ne (by omega)).trans k2)
        · exact upd_at
        · exact upd_at
        · show upd (upd (T 5) q (-1)) q (nI (q + 1)) q = tv_ f (a, c, q0, b0) q 5
          rw [upd_at, tv_, if_pos hc]
        · show upd (upd (T 6) q (-1)) q (nI (q + 2 * sp_ f (fa0_ f T q a c 0 q) a c)) q = tv_ f (a, c, q0, b0) q 6
          rw [upd_at, tv_, if_pos hc, em]
        · exact (upd_ne (by omega)).trans ((upd_ne (by omega)).trans k7)
        · exact (upd_ne (by omega)).trans ((upd_ne (by omega)).trans k8)
      · have hT := h.1 q nd (by omega) hN j hj
        rw [← hT]
        rcases (show j = 0 ∨ j = 1 ∨ j = 2 ∨ j = 3 ∨ j = 4 ∨ j = 5 ∨ j = 6 ∨ j = 7 ∨ j = 8 by omega) with rfl | rfl | rfl | rfl | rfl | rfl | rfl | rfl | rfl
        · exact upd_ne e
        · exact (upd_ne (by omega)).trans (upd_ne (by omega))
        · exact (upd_ne (by omega)).trans (upd_ne (by omega))
        · exact upd_ne e
        · exact upd_ne e
        · exact (upd_ne e).trans (upd_ne e)
        · exact (upd_ne e).trans (upd_ne e)
        · exact (upd_ne (by omega)).trans (upd_ne (by omega))
        · exact (upd_ne (by omega)).trans (upd_ne (by omega))
    · by_cases e2 : q = p + 2 * ms_ f a c
      · subst e2
        have hnd := Option.some.inj (hN.symm.trans d2)
        subst hnd
        exact ⟨upd_at, upd_at, upd_at, upd_at⟩
      · by_cases e1 : q = p + 1
        · subst e1
          have hnd := Option.some.inj (hN.symm.trans d1)
          subst hnd
          exact ⟨(upd_ne e2).trans upd_at, (upd_ne e2).trans upd_at, (upd_ne e2).trans upd_at, (upd_ne e2).trans upd_at⟩
        · have hb2 : bgn_ f n p q := by
            rcases hb with h0 | ⟨p', nd', c1, c2, c3, c4⟩
            · exact Or.inl h0
            · by_cases e : p' = p
              · subst e
                have hnd := Option.some.inj (c2.symm.trans hp)
                subst hnd
                rcases c4 with c4 | c4
                · exact absurd c4 e1
                · exact absurd c4 e2
              · exact Or.inr ⟨p', nd', by omega, c2, c3, c4⟩
          obtain ⟨w1, w2, w7, w8⟩ := h.2 q nd hN hb2
          exact ⟨(upd_ne e2).trans ((upd_ne e1).trans w1), (upd_ne e2).trans ((upd_ne e1).trans w2), (upd_ne e2).trans ((upd_ne e1).trans w7), (upd_ne e2).trans ((upd_ne e1).trans w8)⟩
  · rw [fat_, if_neg hc]
    refine ⟨fun q nd hq hN j hj => ?_, fun q nd hN hb => ?_⟩
    · by_cases e : q = p
      · subst e
        have hnd : nd = (a, c, q0, b0) := Option.some.inj (hN.symm.trans hp)
        subst hnd
        rcases (show j = 0 ∨ j = 1 ∨ j = 2 ∨ j = 3 ∨ j = 4 ∨ j = 5 ∨ j = 6 ∨ j = 7 ∨ j = 8 by omega) with rfl | rfl | rfl | rfl | rfl | rfl | rfl | rfl | rfl
        · exact upd_at
        · exact k1
        · exact k2
        · exact upd_at
        · exact upd_at
        · show upd (T 5) q (-1) q = tv_ f (a, c, q0, b0) q 5
          rw [upd_at, tv_, if_neg hc]
        · show upd (T 6) q (-1) q = tv_ f (a, c, q0, b0) q 6
          rw [upd_at, tv_, if_neg hc]
        · exact k7
        · exact k8
      · have hT := h.1 q nd (by omega) hN j hj
        rw [← hT]
        rcases (show j = 0 ∨ j = 1 ∨ j = 2 ∨ j = 3 ∨ j = 4 ∨ j = 5 ∨ j = 6 ∨ j = 7 ∨ j = 8 by omega) with rfl | rfl | rfl | rfl | rfl | rfl | rfl | rfl | rfl
        · exact upd_ne e
        · rfl
        · rfl
        · exact upd_ne e
        · exact upd_ne e
        · exact upd_ne e
        · exact upd_ne e
        · rfl
        · rfl
    · have hb2 : bgn_ f n p q := by
        rcases hb with h0 | ⟨p', nd', c1, c2, c3, c4⟩
        · exact Or.inl h0
        · by_cases e : p' = p
          · subst e
            have hnd := Option.some.inj (c2.symm.trans hp)
            subst hnd
            exact absurd c3 hc
          · exact Or.inr ⟨p', nd', by omega, c2, c3, c4⟩
      exact h.2 q nd hN hb2
end
section
theorem tI_0' {f : Nat → Int32} {n : Nat} {T : Nat → Nat → Int32} : tI_ f n 0 (bg_ T 0 0 n 0 0) := by
  cases n with
  | zero => exact ⟨fun q nd _ h => by simp [tN_, tr_] at h, fun q nd h => by simp [tN_, tr_] at h⟩
  | succ n => exact tI_0 (by omega)
theorem zs_le {n : Nat} (h : n ≤ 48) : zs_ n ≤ 95 := by unfold zs_; split <;> omega
theorem wk_leaf {T : Nat → Nat → Int32} {x : Int32} {p : Nat} (h : T 0 p = -1) : ∀ k, wk_ T x k p = p
  | 0 => rfl
  | k + 1 => by rw [wk_, if_pos h]
/-- a post's sides stand in the row -/
def ch_ (sz : Nat) (T : Nat → Nat → Int32) : Prop := ∀ p, p < sz → ¬ T 0 p = -1 → ∃ l h : Nat, T 5 p = nI l ∧ T 6 p = nI h ∧ l < sz ∧ h < sz
theorem wk_lt {T : Nat → Nat → Int32} {x : Int32} {sz : Nat} (hsz : sz ≤ 95) (hc : ch_ sz T) : ∀ (k p : Nat), p < sz → wk_ T x k p < sz
  | 0, p, h => h
  | k + 1, p, h => by
    rw [wk_]
    split
    · exact h
    · next hn =>
      obtain ⟨l, r, e5, e6, b5, b6⟩ := hc p h hn
      refine wk_lt hsz hc k _ ?_
      rw [e5, e6, nI_clamp (by omega), nI_clamp (by omega)]
      split
      · exact b6
      · exact b5
theorem g_ip0 {c : Prop} [Decidable c] (h : (if c then (0 : Int32) else 1) = 0) : c := by
  by_cases hc : c
  · exact hc
  · rw [if_neg hc] at h; exact absurd h (by decide)
theorem g_ip1 {c : Prop} [Decidable c] (h : ¬ (if c then (0 : Int32) else 1) = 0) : ¬ c := fun hc => h (by rw [if_pos hc])
theorem g_hb1 {c : Bool} (h : ¬ (if c then (1 : Int32) else 0) = 0) : c = true := by
  cases c with
  | true => rfl
  | false => exact absurd rfl h
theorem g_hb0 {c : Bool} (h : (if c then (1 : Int32) else 0) = 0) : c = false := by
  cases c with
  | true => exact absurd h (by decide)
  | false => rfl
abbrev m_X0_fill_rm : Room := { frames := 12, cells := 0, slots := 0, locals := 300 }
set_option maxHeartbeats 4000000 in
set_option maxRecDepth 100000 in
theorem m_X0_fill (l : Launch) (D : va_G) (hAD : g_AD D) (σ : Nat → va_E) (sz : Nat) (T : Nat → Nat → Int32) (hG : g_S D σ sz T) (v : Nat) (L : g_L) (F G : Nat → Int32) (hV : g_VF D σ v L F G) (hvd : v + 2 < 10 ∨ 19 < v) (hgs : gs_ (fn_ L) L.length) : g_M l D yX0_fill cX0_fill 4 none m_X0_fill_rm [.ref (ad_ D 10), .ref (ad_ D v)] σ (fun v1 σ1 => v1 = none ∧ (∃ T1, g_S D σ1 (zs_ L.length) T1 ∧ tB_ (fn_ L) L.length T1) ∧ g_off 10 19 σ σ1) := by
  refine g_ofW [(0, .ref (ad_ D 10)), (1, .ref (ad_ D v))] (by decide +kernel) (Nat.le_of_ble_eq_true rfl) rfl ?_
  intro p e s m args below meth c hx hb hr hml hown hlocks hts hE hZ hP hS hnm ls hl
  have hown : s.vm.findClass RX0 = some m.cls := hown
  generalize hQ : MQ _ _ _ _ _ _ _ = Q
  obtain ⟨h10, h11, h12, h13, h14, h15, h16, h17, h18, h19, hsz⟩ := id hG
  have hvv := hV.2.2.2.2.2
  have hLn := hV.2.2.2.2.1
  have hz9 := zs_le hLn
  refine lv_aload_n hx hb dX0_fill_0 rfl (lv_at hl 1 rfl) ?_
  refine g_callV0 (y := yX1_size) (n := 0) (As := []) (rest := []) hx hb hml hown hts hE hZ hP hS hl.1 (m_X1_size l D hAD σ v L F G hV) k_X0_43 (ci := 1) (by omega) hV.1 rfl rfl rfl rfl rfl ⟨rfl, rfl⟩ ⟨Nat.le_of_ble_eq_true rfl, Nat.le_of_ble_eq_true rfl⟩ (Nat.le_of_ble_eq_true rfl) ⟨Nat.le_of_ble_eq_true rfl, Nat.le_of_ble_eq_true rfl⟩ dX0_fill_1 (fun v1 σ_2 H locs hq hP hS => ?_)
  obtain ⟨rfl, rfl⟩ := hq
  refine W.eq (g2 := F0 m 4 ls [.int (nI L.length)]) rfl ?_
  refine lv_istore_n (lv' := [(2, .int (nI L.length)), (0, .ref (ad_ D 10)), (1, .ref (ad_ D v))]) hx hb dX0_fill_4 rfl hl (by decide) rfl (fun ls hl => ?_)
  refine lv_aload_n hx hb dX0_fill_5 rfl (lv_at hl 1 rfl) ?_
  refine lv_iload_n hx hb dX0_fill_6 rfl (lv_at hl 0 rfl) ?_
  refine lv_if_ne (tgt := 14) hx hb dX0_fill_7 (by decide) (fun h7 => ?_) (fun h7 => ?_)
  · have hb7 := g_ne (a := L.length) (b := 0) h7 (by omega) (by omega)
    refine lv_iconst (v := nI 2) hx hb dX0_fill_14 (by decide) ?_
    refine lv_iload_n hx hb dX0_fill_15 rfl (lv_at hl 0 rfl) ?_
    refine lv_imul hx hb dX0_fill_16 ?_
    refine g_top (y := nI (2 * L.length)) (pk_mul 2 L.length) ?_
    refine lv_iconst (v := nI 1) hx hb dX0_fill_17 (by decide) ?_
    refine lv_isub hx hb dX0_fill_18 ?_
    refine g_top (y := nI ((2 * L.length) - 1)) (pk_sub (by omega)) ?_
    refine g_top (y := nI (zs_ L.length)) (by rw [zs_, if_neg hb7]) ?_
    refine g_put hx hb hts hE hown hAD hP hS g_inX0 tyX0 tyX0_ok nmX0 rfl (by decide) h10 9 (by decide) rfl rfl (by decide +kernel) wf_X0_39 (v := nI (zs_ L.length)) (Nat.le_of_ble_eq_true rfl) dX0_fill_19 (fun H locs hP hS => ?_)
    obtain ⟨σ_3, hσ4⟩ : ∃ z : Nat → va_E, z = va_up σ 10 (.inr (0, [.ref (ad_ D 11), .ref (ad_ D 12), .ref (ad_ D 13), .ref (ad_ D 14), .ref (ad_ D 15), .ref (ad_ D 16), .ref (ad_ D 17), .ref (ad_ D 18), .ref (ad_ D 19), .int (nI (zs_ L.length))])) := ⟨_, rfl⟩
    have hP : va_P D vwCl (g_W D σ_3) H := by rw [hσ4]; exact hP
    have hc5 : σ_3 10 = .inr (0, [.ref (ad_ D 11), .ref (ad_ D 12), .ref (ad_ D 13), .ref (ad_ D 14), .ref (ad_ D 15), .ref (ad_ D 16), .ref (ad_ D 17), .ref (ad_ D 18), .ref (ad_ D 19), .int (nI (zs_ L.length))]) := by rw [hσ4]; exact g_ups
    have hc6 := (by rw [hσ4]; exact g_upn h11 (by decide) : σ_3 11 = .inl (g_cI D, 95, .inl (T 0)))
    have hc7 := (by rw [hσ4]; exact g_upn h12 (by decide) : σ_3 12 = .inl (g_cI D, 95, .inl (T 1)))
    have hc8 := (by rw [hσ4]; exact g_upn h13 (by decide) : σ_3 13 = .inl (g_cI D, 95, .inl (T 2)))
    have hc9 := (by rw [hσ4]; exact g_upn h14 (by decide) : σ_3 14 = .inl (g_cI D, 95, .inl (T 3)))
    have hc10 := (by rw [hσ4]; exact g_upn h15 (by decide) : σ_3 15 = .inl (g_cI D, 95, .inl (T 4)))
    have hc11 := (by rw [hσ4]; exact g_upn h16 (by decide) : σ_3 16 = .inl (g_cI D, 95, .inl (T 5)))
    have hc12 := (by rw [hσ4]; exact g_upn h17 (by decide) : σ_3 17 = .inl (g_cI D, 95, .inl (T 6)))
    have hc13 := (by rw [hσ4]; exact g_upn h18 (by decide) : σ_3 18 = .inl (g_cI D, 95, .inl (T 7)))
    have hc14 := (by rw [hσ4]; exact g_upn h19 (by decide) : σ_3 19 = .inl (g_cI D, 95, .inl (T 8)))
    have ho15 : g_off 10 19 σ σ_3 := by rw [hσ4]; exact g_off.up (g_off.rf (lo := 10) (hi := 19) (σ := σ)) (by omega) (by omega)
    have hVp16 := g_VF.one hV (q := 10) (σ' := σ_3) (fun k hk => by rw [hσ4]; simp [va_up, hk]) (by omega)
    have hsz := hz9
    refine lv_aload_n hx hb dX0_fill_22 rfl (lv_at hl 1 rfl) ?_
    refine lv_iconst (v := nI 0) hx hb dX0_fill_23 (by decide) ?_
    refine lv_iconst (v := nI 0) hx hb dX0_fill_24 (by decide) ?_
    refine lv_iload_n hx hb dX0_fill_25 rfl (lv_at hl 0 rfl) ?_
    refine lv_iconst (v := nI 0) hx hb dX0_fill_26 (by decide) ?_
    refine lv_iconst (v := nI 0) hx hb dX0_fill_27 (by decide) ?_
    have hGp17 : g_S D σ_3 (zs_ L.length) (T) := ⟨hc5, hc6, hc7, hc8, hc9, hc10, hc11, hc12, hc13, hc14, hsz⟩
    refine g_callV0 (y := yX0_begin) (n := 5) (As := [.int (nI 0), .int (nI 0), .int (nI L.length), .int (nI 0), .int (nI 0)]) (rest := []) hx hb hml hown hts hE hZ hP hS hl.1 (m_X0_begin l D hAD σ_3 (zs_ L.length) (T) hGp17 0 0 L.length 0 0 (by omega)) k_X0_48 (ci := 0) (by decide) hc5 rfl rfl rfl rfl rfl ⟨rfl, rfl⟩ ⟨Nat.le_of_ble_eq_true rfl, Nat.le_of_ble_eq_true rfl⟩ (Nat.le_of_ble_eq_true rfl) ⟨Nat.le_of_ble_eq_true rfl, Nat.le_of_ble_eq_true rfl⟩ dX0_fill_28 (fun v18 σ_19 H locs hq hP hS => ?_)
    obtain ⟨rfl, hq2⟩ := hq
    refine W.eq (g2 := F0 m 31 ls []) rfl ?_
    obtain ⟨hGb20, hob21⟩ := hq2
    have hV22 := g_VF.off hVp16 hob21 (by omega)
    obtain ⟨s23_10, s23_11, s23_12, s23_13, s23_14, s23_15, s23_16, s23_17, s23_18, s23_19, s23_sz⟩ := id hGb20
    have ho24 := g_off.tr ho15 hob21
    refine lv_iconst (v := nI 0) hx hb dX0_fill_31 (by decide) ?_
    refine lv_istore_n (lv' := [(3, .int (nI 0)), (2, .int (nI L.length)), (0, .ref (ad_ D 10)), (1, .ref (ad_ D v))]) hx hb dX0_fill_32 rfl hl (by decide) rfl (fun ls hl => ?_)
    have K33 : ∀ (fuel33 : Nat) (i : Nat) (σ2 : Nat → va_E) (T2 : Nat → Nat → Int32), (zs_ L.length - i) < fuel33 → (i ≤ zs_ L.length) → (g_S D σ2 (zs_ L.length) T2) → (tI_ (fn_ L) L.length i T2) → (g_VF D σ2 v L F G) → (g_off 10 19 σ σ2) → ∀ (H : Heap) (locs : List Loc), va_P D vwCl (g_W D σ2) H → va_S (g_A D s.heap.size) s.heap H locs → ∀ ls : Array Slot, lv_has ls 4 [(3, .int (nI i)), (0, .ref (ad_ D 10)), (1, .ref (ad_ D v))] → W p l e m_X0_fill_rm s m args below meth c H locs 0 0 Q (F0 m 33 ls []) := by
      intro fuel33
      induction fuel33 with
      | zero => intro i σ2 T2 hf; exact absurd hf (Nat.not_lt_zero _)
      | succ fuel33 ih33 =>
        intro i σ2 T2 hf33 hi i0 iI iV io H locs hP hS ls hl
        obtain ⟨t_10, t_11, t_12, t_13, t_14, t_15, t_16, t_17, t_18, t_19, t_sz⟩ := id i0
        refine lv_iload_n hx hb dX0_fill_33 rfl (lv_at hl 0 rfl) ?_
        refine lv_aload_n hx hb dX0_fill_34 rfl (lv_at hl 1 rfl) ?_
        refine g_get hx hb hts hE hown hP g_inX0 rfl (by decide) t_10 9 (by decide) rfl wf_X0_39 (v := .int (nI (zs_ L.length))) rfl dX0_fill_35 ?_
        refine lv_icmp_ge (tgt := 53) hx hb dX0_fill_38 (by decide) (fun h38 => ?_) (fun h38 => ?_)
        · have hb38 := g_le (a := zs_ L.length) (b := i) h38 (by omega) (by omega)
          have hi2 : i = zs_ L.length := by omega
          rw [← hQ]
          exact W.vret hx hb hr (fun t ht _ => g_fin (⟨rfl, ⟨T2, i0, tI_end hgs (by rw [← hi2]; exact iI)⟩, io⟩) hP hS ht) hS.2.2 dX0_fill_53 hlocks
        · have hb38 := g_nle (a := zs_ L.length) (b := i) h38 (by omega) (by omega)
          obtain ⟨nd, hnd⟩ : ∃ nd, (tN_ (fn_ L) L.length)[i]? = some nd := ⟨_, List.getElem?_eq_getElem (by rw [tN_len hgs]; exact hb38)⟩
          obtain ⟨k1, k2, k7, k8⟩ := tI_know hgs iI hnd
          have hn1 := tN_pos hnd
          obtain ⟨n1, n2, n3, n4, n5, n6, -⟩ := tr_node hgs L.length 0 L.length 0 0 hn1 (Nat.le_refl _) (by omega) i nd hnd
          refine lv_aload_n hx hb dX0_fill_41 rfl (lv_at hl 1 rfl) ?_
          refine lv_iload_n hx hb dX0_fill_42 rfl (lv_at hl 0 rfl) ?_
          refine lv_aload_n hx hb dX0_fill_43 rfl (lv_at hl 2 rfl) ?_
          refine g_callV0 (y := yX0_fillAt) (n := 2) (As := [.int (nI i), .ref (ad_ D v)]) (rest := []) hx hb hml hown hts hE hZ hP hS hl.1 (m_X0_fillAt l D hAD σ2 (zs_ L.length) (T2) i0 v L F G i nd.1 nd.2.1 nd.2.2.1 iV hvd k1 k2 k7 (by omega) (by omega) (by omega) (fun h => (hgs nd.1 nd.2.1 h (by omega)).2) (by omega)) k_X0_52 (ci := 0) (by decide) t_10 rfl rfl rfl rfl rfl ⟨rfl, rfl⟩ ⟨Nat.le_of_ble_eq_true rfl, Nat.le_of_ble_eq_true rfl⟩ (Nat.le_of_ble_eq_true rfl) ⟨Nat.le_of_ble_eq_true rfl, Nat.le_of_ble_eq_true rfl⟩ dX0_fill_44 (fun v25 σ_26 H locs hq hP hS => ?_)
          obtain ⟨rfl, hq2⟩ := hq
          refine W.eq (g2 := F0 m 47 ls []) rfl ?_
          obtain ⟨hGb27, hob28⟩ := hq2
          have hV29 := g_VF.off iV hob28 (by omega)
          obtain ⟨s30_10, s30_11, s30_12, s30_13, s30_14, s30_15, s30_16, s30_17, s30_18, s30_19, s30_sz⟩ := id hGb27
          have ho31 := g_off.tr io hob28
          refine lv_iinc (v := nI (i + 1)) (lv' := [(3, .int (nI (i + 1))), (0, .ref (ad_ D 10)), (1, .ref (ad_ D v))]) hx hb dX0_fill_47 hl (k := 0) rfl (g_inc i) (by decide) rfl (fun ls hl => ?_)
          refine lv_goto (tgt := 33) hx hb dX0_fill_50 (by decide) ?_
          exact ih33 (i + 1) σ_26 (fat_ (fn_ L) (T2) i nd.1 nd.2.1 nd.2.2.1) (by omega) (by omega) hGb27 (tI_step hgs iI hnd) hV29 ho31 _ _ hP hS ls (lv_sub hl [0, 1, 2] rfl)
    exact K33 ((zs_ L.length - 0) + 1) 0 σ_19 (bg_ (T) 0 0 L.length 0 0) (Nat.lt_succ_self _) (Nat.zero_le _) hGb20 tI_0' hV22 ho24 _ _ hP hS ls (lv_sub hl [0, 2, 3] rfl)
  · have hb7 := g_eq (a := L.length) (b := 0) h7 (by omega) (by omega)
    refine lv_iconst (v := nI 0) hx hb dX0_fill_10 (by decide) ?_
    refine lv_goto (tgt := 19) hx hb dX0_fill_11 (by decide) ?_
    refine g_top (y := nI (zs_ L.length)) (by rw [zs_, if_pos hb7]) ?_
    refine g_put hx hb hts hE hown hAD hP hS g_inX0 tyX0 tyX0_ok nmX0 rfl (by decide) h10 9 (by decide) rfl rfl (by decide +kernel) wf_X0_39 (v := nI (zs_ L.length)) (Nat.le_of_ble_eq_true rfl) dX0_fill_19 (fun H locs hP hS => ?_)
    obtain ⟨σ_32, hσ33⟩ : ∃ z : Nat → va_E, z = va_up σ 10 (.inr (0, [.ref (ad_ D 11), .ref (ad_ D 12), .ref (ad_ D 13), .ref (ad_ D 14), .ref (ad_ D 15), .ref (ad_ D 16), .ref (ad_ D 17), .ref (ad_ D 18), .ref (ad_ D 19), .int (nI (zs_ L.length))])) := ⟨_, rfl⟩
    have hP : va_P D vwCl (g_W D σ_32) H := by rw [hσ33]; exact hP
    have hc34 : σ_32 10 = .inr (0, [.ref (ad_ D 11), .ref (ad_ D 12), .ref (ad_ D 13), .ref (ad_ D 14), .ref (ad_ D 15), .ref (ad_ D 16), .ref (ad_ D 17), .ref (ad_ D 18), .ref (ad_ D 19), .int (nI (zs_ L.length))]) := by rw [hσ33]; exact g_ups
    have hc35 := (by rw [hσ33]; exact g_upn h11 (by decide) : σ_32 11 = .inl (g_cI D, 95, .inl (T 0)))
    have hc36 := (by rw [hσ33]; exact g_upn h12 (by decide) : σ_32 12 = .inl (g_cI D, 95, .inl (T 1)))
    have hc37 := (by rw [hσ33]; exact g_upn h13 (by decide) : σ_32 13 = .inl (g_cI D, 95, .inl (T 2)))
    have hc38 := (by rw [hσ33]; exact g_upn h14 (by decide) : σ_32 14 = .inl (g_cI D, 95, .inl (T 3)))
    have hc39 := (by rw [hσ33]; exact g_upn h15 (by decide) : σ_32 15 = .inl (g_cI D, 95, .inl (T 4)))
    have hc40 := (by rw [hσ33]; exact g_upn h16 (by decide) : σ_32 16 = .inl (g_cI D, 95, .inl (T 5)))
    have hc41 := (by rw [hσ33]; exact g_upn h17 (by decide) : σ_32 17 = .inl (g_cI D, 95, .inl (T 6)))
    have hc42 := (by rw [hσ33]; exact g_upn h18 (by decide) : σ_32 18 = .inl (g_cI D, 95, .inl (T 7)))
    have hc43 := (by rw [hσ33]; exact g_upn h19 (by decide) : σ_32 19 = .inl (g_cI D, 95, .inl (T 8)))
    have ho44 : g_off 10 19 σ σ_32 := by rw [hσ33]; exact g_off.up (g_off.rf (lo := 10) (hi := 19) (σ := σ)) (by omega) (by omega)
    have hVp45 := g_VF.one hV (q := 10) (σ' := σ_32) (fun k hk => by rw [hσ33]; simp [va_up, hk]) (by omega)
    have hsz := hz9
    refine lv_aload_n hx hb dX0_fill_22 rfl (lv_at hl 1 rfl) ?_
    refine lv_iconst (v := nI 0) hx hb dX0_fill_23 (by decide) ?_
    refine lv_iconst (v := nI 0) hx hb dX0_fill_24 (by decide) ?_
    refine lv_iload_n hx hb dX0_fill_25 rfl (lv_at hl 0 rfl) ?_
    refine lv_iconst (v := nI 0) hx hb dX0_fill_26 (by decide) ?_
    refine lv_iconst (v := nI 0) hx hb dX0_fill_27 (by decide) ?_
    have hGp46 : g_S D σ_32 (zs_ L.length) (T) := ⟨hc34, hc35, hc36, hc37, hc38, hc39, hc40, hc41, hc42, hc43, hsz⟩
    refine g_callV0 (y := yX0_begin) (n := 5) (As := [.int (nI 0), .int (nI 0), .int (nI L.length), .int (nI 0), .int (nI 0)]) (rest := []) hx hb hml hown hts hE hZ hP hS hl.1 (m_X0_begin l D hAD σ_32 (zs_ L.length) (T) hGp46 0 0 L.length 0 0 (by omega)) k_X0_48 (ci := 0) (by decide) hc34 rfl rfl rfl rfl rfl ⟨rfl, rfl⟩ ⟨Nat.le_of_ble_eq_true rfl, Nat.le_of_ble_eq_true rfl⟩ (Nat.le_of_ble_eq_true rfl) ⟨Nat.le_of_ble_eq_true rfl, Nat.le_of_ble_eq_true rfl⟩ dX0_fill_28 (fun v47 σ_48 H locs hq hP hS => ?_)
    obtain ⟨rfl, hq2⟩ := hq
    refine W.eq (g2 := F0 m 31 ls []) rfl ?_
    obtain ⟨hGb49, hob50⟩ := hq2
    have hV51 := g_VF.off hVp45 hob50 (by omega)
    obtain ⟨s52_10, s52_11, s52_12, s52_13, s52_14, s52_15, s52_16, s52_17, s52_18, s52_19, s52_sz⟩ := id hGb49
    have ho53 := g_off.tr ho44 hob50
    refine lv_iconst (v := nI 0) hx hb dX0_fill_31 (by decide) ?_
    refine lv_istore_n (lv' := [(3, .int (nI 0)), (2, .int (nI L.length)), (0, .ref (ad_ D 10)), (1, .ref (ad_ D v))]) hx hb dX0_fill_32 rfl hl (by decide) rfl (fun ls hl => ?_)
    have K33 : ∀ (fuel33 : Nat) (i : Nat) (σ2 : Nat → va_E) (T2 : Nat → Nat → Int32), (zs_ L.length - i) < fuel33 → (i ≤ zs_ L.length) → (g_S D σ2 (zs_ L.length) T2) → (tI_ (fn_ L) L.length i T2) → (g_VF D σ2 v L F G) → (g_off 10 19 σ σ2) → ∀ (H : Heap) (locs : List Loc), va_P D vwCl (g_W D σ2) H → va_S (g_A D s.heap.size) s.heap H locs → ∀ ls : Array Slot, lv_has ls 4 [(3, .int (nI i)), (0, .ref (ad_ D 10)), (1, .ref (ad_ D v))] → W p l e m_X0_fill_rm s m args below meth c H locs 0 0 Q (F0 m 33 ls []) := by
      intro fuel33
      induction fuel33 with
      | zero => intro i σ2 T2 hf; exact absurd hf (Nat.not_lt_zero _)
      | succ fuel33 ih33 =>
        intro i σ2 T2 hf33 hi i0 iI iV io H locs hP hS ls hl
        obtain ⟨t_10, t_11, t_12, t_13, t_14, t_15, t_16, t_17, t_18, t_19, t_sz⟩ := id i0
        refine lv_iload_n hx hb dX0_fill_33 rfl (lv_at hl 0 rfl) ?_
        refine lv_aload_n hx hb dX0_fill_34 rfl (lv_at hl 1 rfl) ?_
        refine g_get hx hb hts hE hown hP g_inX0 rfl (by decide) t_10 9 (by decide) rfl wf_X0_39 (v := .int (nI (zs_ L.length))) rfl dX0_fill_35 ?_
        refine lv_icmp_ge (tgt := 53) hx hb dX0_fill_38 (by decide) (fun h38 => ?_) (fun h38 => ?_)
        · have hb38 := g_le (a := zs_ L.length) (b := i) h38 (by omega) (by omega)
          have hi2 : i = zs_ L.length := by omega
          rw [← hQ]
          exact W.vret hx hb hr (fun t ht _ => g_fin (⟨rfl, ⟨T2, i0, tI_end hgs (by rw [← hi2]; exact iI)⟩, io⟩) hP hS ht) hS.2.2 dX0_fill_53 hlocks
        · have hb38 := g_nle (a := zs_ L.length) (b := i) h38 (by omega) (by omega)
          obtain ⟨nd, hnd⟩ : ∃ nd, (tN_ (fn_ L) L.length)[i]? = some nd := ⟨_, List.getElem?_eq_getElem (by rw [tN_len hgs]; exact hb38)⟩
          obtain ⟨k1, k2, k7, k8⟩ := tI_know hgs iI hnd
          have hn1 := tN_pos hnd
          obtain ⟨n1, n2, n3, n4, n5, n6, -⟩ := tr_node hgs L.length 0 L.length 0 0 hn1 (Nat.le_refl _) (by omega) i nd hnd
          refine lv_aload_n hx hb dX0_fill_41 rfl (lv_at hl 1 rfl) ?_
          refine lv_iload_n hx hb dX0_fill_42 rfl (lv_at hl 0 rfl) ?_
          refine lv_aload_n hx hb dX0_fill_43 rfl (lv_at hl 2 rfl) ?_
          refine g_callV0 (y := yX0_fillAt) (n := 2) (As := [.int (nI i), .ref (ad_ D v)]) (rest := []) hx hb hml hown hts hE hZ hP hS hl.1 (m_X0_fillAt l D hAD σ2 (zs_ L.length) (T2) i0 v L F G i nd.1 nd.2.1 nd.2.2.1 iV hvd k1 k2 k7 (by omega) (by omega) (by omega) (fun h => (hgs nd.1 nd.2.1 h (by omega)).2) (by omega)) k_X0_52 (ci := 0) (by decide) t_10 rfl rfl rfl rfl rfl ⟨rfl, rfl⟩ ⟨Nat.le_of_ble_eq_true rfl, Nat.le_of_ble_eq_true rfl⟩ (Nat.le_of_ble_eq_true rfl) ⟨Nat.le_of_ble_eq_true rfl, Nat.le_of_ble_eq_true rfl⟩ dX0_fill_44 (fun v54 σ_55 H locs hq hP hS => ?_)
          obtain ⟨rfl, hq2⟩ := hq
          refine W.eq (g2 := F0 m 47 ls []) rfl ?_
          obtain ⟨hGb56, hob57⟩ := hq2
          have hV58 := g_VF.off iV hob57 (by omega)
          obtain ⟨s59_10, s59_11, s59_12, s59_13, s59_14, s59_15, s59_16, s59_17, s59_18, s59_19, s59_sz⟩ := id hGb56
          have ho60 := g_off.tr io hob57
          refine lv_iinc (v := nI (i + 1)) (lv' := [(3, .int (nI (i + 1))), (0, .ref (ad_ D 10)), (1, .ref (ad_ D v))]) hx hb dX0_fill_47 hl (k := 0) rfl (g_inc i) (by decide) rfl (fun ls hl => ?_)
          refine lv_goto (tgt := 33) hx hb dX0_fill_50 (by decide) ?_
          exact ih33 (i + 1) σ_55 (fat_ (fn_ L) (T2) i nd.1 nd.2.1 nd.2.2.1) (by omega) (by omega) hGb56 (tI_step hgs iI hnd) hV58 ho60 _ _ hP hS ls (lv_sub hl [0, 1, 2] rfl)
    exact K33 ((zs_ L.length - 0) + 1) 0 σ_48 (bg_ (T) 0 0 L.length 0 0) (Nat.lt_succ_self _) (Nat.zero_le _) hGb49 tI_0' hV51 ho53 _ _ hP hS ls (lv_sub hl [0, 2, 3] rfl)

abbrev m_X0_isPost_rm : Room := { frames := 9, cells := 0, slots := 0, locals := 221 }
set_option maxHeartbeats 4000000 in
set_option maxRecDepth 100000 in
theorem m_X0_isPost (l : Launch) (D : va_G) (hAD : g_AD D) (σ : Nat → va_E) (sz : Nat) (T : Nat → Nat → Int32) (hG : g_S D σ sz T) (p9 : Nat) (hp : p9 < 95) : g_M l D yX0_isPost cX0_isPost 2 (some .boolean) m_X0_isPost_rm [.ref (ad_ D 10), .int (nI p9)] σ (fun v1 σ1 => v1 = some (.int (if T 0 p9 = -1 then 0 else 1)) ∧ σ = σ1) := by
  refine g_ofW [(0, .ref (ad_ D 10)), (1, .int (nI p9))] (by decide +kernel) (Nat.le_of_ble_eq_true rfl) rfl ?_
  intro p e s m args below meth c hx hb hr hml hown hlocks hts hE hZ hP hS hnm ls hl
  have hown : s.vm.findClass RX0 = some m.cls := hown
  generalize hQ : MQ _ _ _ _ _ _ _ = Q
  obtain ⟨h10, h11, h12, h13, h14, h15, h16, h17, h18, h19, hsz⟩ := id hG
  refine lv_aload_n hx hb dX0_isPost_0 rfl (lv_at hl 0 rfl) ?_
  refine g_get hx hb hts hE hown hP g_inX0 rfl (by decide) h10 0 (by decide) rfl wf_X0_9 (v := .ref (ad_ D 11)) rfl dX0_isPost_1 ?_
  refine lv_iload_n hx hb dX0_isPost_4 rfl (lv_at hl 1 rfl) ?_
  refine g_callN0 (y := yX2_read) (n := 2) (As := [.ref (ad_ D 11), .int (nI p9)]) (rest := []) hx hb hml hown hts hE hZ hP hS hl.1 (m_X2_read l D hAD σ 11 95 (T 0) (nI p9) (by decide) (by decide) h11) k_X0_56 rfl rfl ⟨rfl, rfl⟩ ⟨Nat.le_of_ble_eq_true rfl, Nat.le_of_ble_eq_true rfl⟩ (Nat.le_of_ble_eq_true rfl) ⟨Nat.le_of_ble_eq_true rfl, Nat.le_of_ble_eq_true rfl⟩ dX0_isPost_5 (fun v1 σ_2 H locs hq hP hS => ?_)
  obtain ⟨rfl, rfl⟩ := hq
  refine W.eq (g2 := F0 m 8 ls [.int (rd_ (T 0) 95 (nI p9))]) rfl ?_
  refine g_top (y := T 0 p9) (rd_in (by omega) (by decide)) ?_
  refine lv_iconst (v := (-1)) hx hb dX0_isPost_8 (by decide) ?_
  refine lv_icmp_eq (tgt := 16) hx hb dX0_isPost_9 (by decide) (fun h9 => ?_) (fun h9 => ?_)
  · refine lv_iconst (v := nI 0) hx hb dX0_isPost_16 (by decide) ?_
    rw [← hQ]
    exact W.zret (v := nI 0) hx hb hr (by first | rfl | decide | (split <;> rfl)) (fun t ht _ => g_fin (⟨by first | (rw [if_pos h9]; rfl) | (rw [if_neg h9]; rfl), rfl⟩) hP hS ht) hS.2.2 dX0_isPost_17 hlocks
  · refine lv_iconst (v := nI 1) hx hb dX0_isPost_12 (by decide) ?_
    refine lv_goto (tgt := 17) hx hb dX0_isPost_13 (by decide) ?_
    rw [← hQ]
    exact W.zret (v := nI 1) hx hb hr (by first | rfl | decide | (split <;> rfl)) (fun t ht _ => g_fin (⟨by first | (rw [if_pos h9]; rfl) | (rw [if_neg h9]; rfl), rfl⟩) hP hS ht) hS.2.2 dX0_isPost_17 hlocks

abbrev m_X0_postCount_rm : Room := { frames := 10, cells := 0, slots := 0, locals := 242 }
set_option maxHeartbeats 4000000 in
set_option maxRecDepth 100000 in
theorem m_X0_postCount (l : Launch) (D : va_G) (hAD : g_AD D) (σ : Nat → va_E) (sz : Nat) (T : Nat → Nat → Int32) (hG : g_S D σ sz T)   : g_M l D yX0_postCount cX0_postCount 3 (some .int) m_X0_postCount_rm [.ref (ad_ D 10)] σ (fun v1 σ1 => v1 = some (.int (nI (pc_ (T 0) sz))) ∧ σ = σ1) := by
  refine g_ofW [(0, .ref (ad_ D 10))] (by decide +kernel) (Nat.le_of_ble_eq_true rfl) rfl ?_
  intro p e s m args below meth c hx hb hr hml hown hlocks hts hE hZ hP hS hnm ls hl
  have hown : s.vm.findClass RX0 = some m.cls := hown
  generalize hQ : MQ _ _ _ _ _ _ _ = Q
  obtain ⟨h10, h11, h12, h13, h14, h15, h16, h17, h18, h19, hsz⟩ := id hG
  refine lv_iconst (v := nI 0) hx hb dX0_postCount_0 (by decide) ?_
  refine lv_istore_n (lv' := [(1, .int (nI 0)), (0, .ref (ad_ D 10))]) hx hb dX0_postCount_1 rfl hl (by decide) rfl (fun ls hl => ?_)
  refine lv_iconst (v := nI 0) hx hb dX0_postCount_2 (by decide) ?_
  refine lv_istore_n (lv' := [(2, .int (nI 0)), (1, .int (nI 0)), (0, .ref (ad_ D 10))]) hx hb dX0_postCount_3 rfl hl (by decide) rfl (fun ls hl => ?_)
  have K4 : ∀ (fuel4 : Nat) (i : Nat), (sz - i) < fuel4 → (i ≤ sz) → ∀ (H : Heap) (locs : List Loc), va_P D vwCl (g_W D σ) H → va_S (g_A D s.heap.size) s.heap H locs → ∀ ls : Array Slot, lv_has ls 3 [(2, .int (nI i)), (1, .int (nI (pc_ (T 0) i))), (0, .ref (ad_ D 10))] → W p l e m_X0_postCount_rm s m args below meth c H locs 0 0 Q (F0 m 4 ls []) := by
    intro fuel4
    induction fuel4 with
    | zero => intro i hf; exact absurd hf (Nat.not_lt_zero _)
    | succ fuel4 ih4 =>
      intro i hf4 hi H locs hP hS ls hl
      refine lv_iload_n hx hb dX0_postCount_4 rfl (lv_at hl 0 rfl) ?_
      refine lv_aload_n hx hb dX0_postCount_5 rfl (lv_at hl 2 rfl) ?_
      refine g_get hx hb hts hE hown hP g_inX0 rfl (by decide) h10 9 (by decide) rfl wf_X0_39 (v := .int (nI sz)) rfl dX0_postCount_6 ?_
      refine lv_icmp_ge (tgt := 29) hx hb dX0_postCount_9 (by decide) (fun h9 => ?_) (fun h9 => ?_)
      · have hb9 := g_le (a := sz) (b := i) h9 (by omega) (by omega)
        have hi2 : i = sz := by omega
        refine lv_iload_n hx hb dX0_postCount_29 rfl (lv_at hl 1 rfl) ?_
        rw [← hQ]
        exact W.iret (v := nI (pc_ (T 0) i)) hx hb hr (fun t ht _ => g_fin (⟨by rw [← hi2], rfl⟩) hP hS ht) hS.2.2 dX0_postCount_30 hlocks
      · have hb9 := g_nle (a := sz) (b := i) h9 (by omega) (by omega)
        refine lv_aload_n hx hb dX0_postCount_12 rfl (lv_at hl 2 rfl) ?_
        refine lv_iload_n hx hb dX0_postCount_13 rfl (lv_at hl 0 rfl) ?_
        refine g_callV0 (y := yX0_isPost) (n := 1) (As := [.int (nI i)]) (rest := []) hx hb hml hown hts hE hZ hP hS hl.1 (m_X0_isPost l D hAD σ sz T hG i (by omega)) k_X0_68 (ci := 0) (by decide) hG.1 rfl rfl rfl rfl rfl ⟨rfl, rfl⟩ ⟨Nat.le_of_ble_eq_true rfl, Nat.le_of_ble_eq_true rfl⟩ (Nat.le_of_ble_eq_true rfl) ⟨Nat.le_of_ble_eq_true rfl, Nat.le_of_ble_eq_true rfl⟩ dX0_postCount_14 (fun v1 σ_2 H locs hq hP hS => ?_)
        obtain ⟨rfl, rfl⟩ := hq
        refine W.eq (g2 := F0 m 17 ls [.int (if T 0 i = -1 then 0 else 1)]) rfl ?_
        refine lv_if_eq (tgt := 23) hx hb dX0_postCount_17 (by decide) (fun h17 => ?_) (fun h17 => ?_)
        · have hq17 := g_ip0 h17
          have hfx3 : nI (pc_ (T 0) i) = nI (pc_ (T 0) (i + 1)) := congrArg nI (by rw [pc_, if_pos hq17]; rfl)
          rw [hfx3] at hl
          refine lv_iinc (v := nI (i + 1)) (lv' := [(2, .int (nI (i + 1))), (1, .int (nI (pc_ (T 0) (i + 1)))), (0, .ref (ad_ D 10))]) hx hb dX0_postCount_23 hl (k := 0) rfl (g_inc i) (by decide) rfl (fun ls hl => ?_)
          refine lv_goto (tgt := 4) hx hb dX0_postCount_26 (by decide) ?_
          exact ih4 (i + 1) (by omega) (by omega) _ _ hP hS ls (lv_sub hl [0, 1, 2] rfl)
        · have hq17 := g_ip1 h17
          refine lv_iinc (v := nI (pc_ (T 0) i + 1)) (lv' := [(1, .int (nI (pc_ (T 0) i + 1))), (2, .int (nI i)), (0, .ref (ad_ D 10))]) hx hb dX0_postCount_20 hl (k := 1) rfl (g_inc (pc_ (T 0) i)) (by decide) rfl (fun ls hl => ?_)
          have hfx4 : nI (pc_ (T 0) i + 1) = nI (pc_ (T 0) (i + 1)) := congrArg nI (by rw [pc_, if_neg hq17])
          rw [hfx4] at hl
          refine lv_iinc (v := nI (i + 1)) (lv' := [(2, .int (nI (i + 1))), (1, .int (nI (pc_ (T 0) (i + 1)))), (0, .ref (ad_ D 10))]) hx hb dX0_postCount_23 hl (k := 1) rfl (g_inc i) (by decide) rfl (fun ls hl => ?_)
          refine lv_goto (tgt := 4) hx hb dX0_postCount_26 (by decide) ?_
          exact ih4 (i + 1) (by omega) (by omega) _ _ hP hS ls (lv_sub hl [0, 1, 2] rfl)
  exact K4 ((sz - 0) + 1) 0 (Nat.lt_succ_self _) (Nat.zero_le _) _ _ hP hS ls (lv_sub hl [0, 1, 2] rfl)

abbrev m_X0_postBits_rm : Room := { frames := 10, cells := 0, slots := 0, locals := 242 }
set_option maxHeartbeats 4000000 in
set_option maxRecDepth 100000 in
theorem m_X0_postBits (l : Launch) (D : va_G) (hAD : g_AD D) (σ : Nat → va_E) (sz : Nat) (T : Nat → Nat → Int32) (hG : g_S D σ sz T)   : g_M l D yX0_postBits cX0_postBits 3 (some .int) m_X0_postBits_rm [.ref (ad_ D 10)] σ (fun v1 σ1 => v1 = some (.int (pb_ (T 0) sz)) ∧ σ = σ1) := by
  refine g_ofW [(0, .ref (ad_ D 10))] (by decide +kernel) (Nat.le_of_ble_eq_true rfl) rfl ?_
  intro p e s m args below meth c hx hb hr hml hown hlocks hts hE hZ hP hS hnm ls hl
  have hown : s.vm.findClass RX0 = some m.cls := hown
  generalize hQ : MQ _ _ _ _ _ _ _ = Q
  obtain ⟨h10, h11, h12, h13, h14, h15, h16, h17, h18, h19, hsz⟩ := id hG
  refine lv_iconst (v := nI 0) hx hb dX0_postBits_0 (by decide) ?_
  refine lv_istore_n (lv' := [(1, .int (nI 0)), (0, .ref (ad_ D 10))]) hx hb dX0_postBits_1 rfl hl (by decide) rfl (fun ls hl => ?_)
  refine lv_iconst (v := nI 0) hx hb dX0_postBits_2 (by decide) ?_
  refine lv_istore_n (lv' := [(2, .int (nI 0)), (1, .int (nI 0)), (0, .ref (ad_ D 10))]) hx hb dX0_postBits_3 rfl hl (by decide) rfl (fun ls hl => ?_)
  have K4 : ∀ (fuel4 : Nat) (i : Nat), (sz - i) < fuel4 → (i ≤ sz) → ∀ (H : Heap) (locs : List Loc), va_P D vwCl (g_W D σ) H → va_S (g_A D s.heap.size) s.heap H locs → ∀ ls : Array Slot, lv_has ls 3 [(2, .int (nI i)), (1, .int (pb_ (T 0) i)), (0, .ref (ad_ D 10))] → W p l e m_X0_postBits_rm s m args below meth c H locs 0 0 Q (F0 m 4 ls []) := by
    intro fuel4
    induction fuel4 with
    | zero => intro i hf; exact absurd hf (Nat.not_lt_zero _)
    | succ fuel4 ih4 =>
      intro i hf4 hi H locs hP hS ls hl
      refine lv_iload_n hx hb dX0_postBits_4 rfl (lv_at hl 0 rfl) ?_
      refine lv_aload_n hx hb dX0_postBits_5 rfl (lv_at hl 2 rfl) ?_
      refine g_get hx hb hts hE hown hP g_inX0 rfl (by decide) h10 9 (by decide) rfl wf_X0_39 (v := .int (nI sz)) rfl dX0_postBits_6 ?_
      refine lv_icmp_ge (tgt := 39) hx hb dX0_postBits_9 (by decide) (fun h9 => ?_) (fun h9 => ?_)
      · have hb9 := g_le (a := sz) (b := i) h9 (by omega) (by omega)
        have hi2 : i = sz := by omega
        refine lv_iload_n hx hb dX0_postBits_39 rfl (lv_at hl 1 rfl) ?_
        rw [← hQ]
        exact W.iret (v := pb_ (T 0) i) hx hb hr (fun t ht _ => g_fin (⟨by rw [← hi2], rfl⟩) hP hS ht) hS.2.2 dX0_postBits_40 hlocks
      · have hb9 := g_nle (a := sz) (b := i) h9 (by omega) (by omega)
        refine lv_aload_n hx hb dX0_postBits_12 rfl (lv_at hl 2 rfl) ?_
        refine lv_iload_n hx hb dX0_postBits_13 rfl (lv_at hl 0 rfl) ?_
        refine g_callV0 (y := yX0_isPost) (n := 1) (As := [.int (nI i)]) (rest := []) hx hb hml hown hts hE hZ hP hS hl.1 (m_X0_isPost l D hAD σ sz T hG i (by omega)) k_X0_68 (ci := 0) (by decide) hG.1 rfl rfl rfl rfl rfl ⟨rfl, rfl⟩ ⟨Nat.le_of_ble_eq_true rfl, Nat.le_of_ble_eq_true rfl⟩ (Nat.le_of_ble_eq_true rfl) ⟨Nat.le_of_ble_eq_true rfl, Nat.le_of_ble_eq_true rfl⟩ dX0_postBits_14 (fun v1 σ_2 H locs hq hP hS => ?_)
        obtain ⟨rfl, rfl⟩ := hq
        refine W.eq (g2 := F0 m 17 ls [.int (if T 0 i = -1 then 0 else 1)]) rfl ?_
        refine lv_if_eq (tgt := 33) hx hb dX0_postBits_17 (by decide) (fun h17 => ?_) (fun h17 => ?_)
        · have hq17 := g_ip0 h17
          have hfx3 : pb_ (T 0) i = pb_ (T 0) (i + 1) := by rw [pb_, if_pos hq17]
          rw [hfx3] at hl
          refine lv_iinc (v := nI (i + 1)) (lv' := [(2, .int (nI (i + 1))), (1, .int (pb_ (T 0) (i + 1))), (0, .ref (ad_ D 10))]) hx hb dX0_postBits_33 hl (k := 0) rfl (g_inc i) (by decide) rfl (fun ls hl => ?_)
          refine lv_goto (tgt := 4) hx hb dX0_postBits_36 (by decide) ?_
          exact ih4 (i + 1) (by omega) (by omega) _ _ hP hS ls (lv_sub hl [0, 1, 2] rfl)
        · have hq17 := g_ip1 h17
          refine lv_iload_n hx hb dX0_postBits_20 rfl (lv_at hl 1 rfl) ?_
          refine lv_iconst (v := nI 1) hx hb dX0_postBits_21 (by decide) ?_
          refine lv_aload_n hx hb dX0_postBits_22 rfl (lv_at hl 2 rfl) ?_
          refine g_get hx hb hts hE hown hP g_inX0 rfl (by decide) h10 0 (by decide) rfl wf_X0_9 (v := .ref (ad_ D 11)) rfl dX0_postBits_23 ?_
          refine lv_iload_n hx hb dX0_postBits_26 rfl (lv_at hl 0 rfl) ?_
          refine g_callN0 (y := yX2_read) (n := 2) (As := [.ref (ad_ D 11), .int (nI i)]) (rest := [.int (nI 1), .int (pb_ (T 0) i)]) hx hb hml hown hts hE hZ hP hS hl.1 (m_X2_read l D hAD σ 11 95 (T 0) (nI i) (by decide) (by decide) h11) k_X0_56 rfl rfl ⟨rfl, rfl⟩ ⟨Nat.le_of_ble_eq_true rfl, Nat.le_of_ble_eq_true rfl⟩ (Nat.le_of_ble_eq_true rfl) ⟨Nat.le_of_ble_eq_true rfl, Nat.le_of_ble_eq_true rfl⟩ dX0_postBits_27 (fun v4 σ_5 H locs hq hP hS => ?_)
          obtain ⟨rfl, rfl⟩ := hq
          refine W.eq (g2 := F0 m 30 ls [.int (rd_ (T 0) 95 (nI i)), .int (nI 1), .int (pb_ (T 0) i)]) rfl ?_
          refine g_top (y := T 0 i) (rd_in (by omega) (by decide)) ?_
          refine lv_ishl hx hb dX0_postBits_30 ?_
          refine lv_ior hx hb dX0_postBits_31 ?_
          refine lv_istore_n (lv' := [(1, .int ((pb_ (T 0) i) ||| ((nI 1) <<< ((T 0 i) &&& 31)))), (2, .int (nI i)), (0, .ref (ad_ D 10))]) hx hb dX0_postBits_32 rfl hl (by decide) rfl (fun ls hl => ?_)
          have hfx6 : (pb_ (T 0) i) ||| ((nI 1) <<< ((T 0 i) &&& 31)) = pb_ (T 0) (i + 1) := by rw [pb_, if_neg hq17]; rfl
          rw [hfx6] at hl
          refine lv_iinc (v := nI (i + 1)) (lv' := [(2, .int (nI (i + 1))), (1, .int (pb_ (T 0) (i + 1))), (0, .ref (ad_ D 10))]) hx hb dX0_postBits_33 hl (k := 1) rfl (g_inc i) (by decide) rfl (fun ls hl => ?_)
          refine lv_goto (tgt := 4) hx hb dX0_postBits_36 (by decide) ?_
          exact ih4 (i + 1) (by omega) (by omega) _ _ hP hS ls (lv_sub hl [0, 1, 2] rfl)
  exact K4 ((sz - 0) + 1) 0 (Nat.lt_succ_self _) (Nat.zero_le _) _ _ hP hS ls (lv_sub hl [0, 1, 2] rfl)

abbrev m_X0_longestPath_rm : Room := { frames := 9, cells := 0, slots := 0, locals := 221 }
set_option maxHeartbeats 4000000 in
set_option maxRecDepth 100000 in
theorem m_X0_longestPath (l : Launch) (D : va_G) (hAD : g_AD D) (σ : Nat → va_E) (sz : Nat) (T : Nat → Nat → Int32) (hG : g_S D σ sz T)   : g_M l D yX0_longestPath cX0_longestPath 3 (some .int) m_X0_longestPath_rm [.ref (ad_ D 10)] σ (fun v1 σ1 => v1 = some (.int (lg_ (T 7) sz)) ∧ σ = σ1) := by
  refine g_ofW [(0, .ref (ad_ D 10))] (by decide +kernel) (Nat.le_of_ble_eq_true rfl) rfl ?_
  intro p e s m args below meth c hx hb hr hml hown hlocks hts hE hZ hP hS hnm ls hl
  have hown : s.vm.findClass RX0 = some m.cls := hown
  generalize hQ : MQ _ _ _ _ _ _ _ = Q
  obtain ⟨h10, h11, h12, h13, h14, h15, h16, h17, h18, h19, hsz⟩ := id hG
  refine lv_iconst (v := nI 0) hx hb dX0_longestPath_0 (by decide) ?_
  refine lv_istore_n (lv' := [(1, .int (nI 0)), (0, .ref (ad_ D 10))]) hx hb dX0_longestPath_1 rfl hl (by decide) rfl (fun ls hl => ?_)
  refine lv_iconst (v := nI 0) hx hb dX0_longestPath_2 (by decide) ?_
  refine lv_istore_n (lv' := [(2, .int (nI 0)), (1, .int (nI 0)), (0, .ref (ad_ D 10))]) hx hb dX0_longestPath_3 rfl hl (by decide) rfl (fun ls hl => ?_)
  have K4 : ∀ (fuel4 : Nat) (i : Nat), (sz - i) < fuel4 → (i ≤ sz) → ∀ (H : Heap) (locs : List Loc), va_P D vwCl (g_W D σ) H → va_S (g_A D s.heap.size) s.heap H locs → ∀ ls : Array Slot, lv_has ls 3 [(2, .int (nI i)), (1, .int (lg_ (T 7) i)), (0, .ref (ad_ D 10))] → W p l e m_X0_longestPath_rm s m args below meth c H locs 0 0 Q (F0 m 4 ls []) := by
    intro fuel4
    induction fuel4 with
    | zero => intro i hf; exact absurd hf (Nat.not_lt_zero _)
    | succ fuel4 ih4 =>
      intro i hf4 hi H locs hP hS ls hl
      refine lv_iload_n hx hb dX0_longestPath_4 rfl (lv_at hl 0 rfl) ?_
      refine lv_aload_n hx hb dX0_longestPath_5 rfl (lv_at hl 2 rfl) ?_
      refine g_get hx hb hts hE hown hP g_inX0 rfl (by decide) h10 9 (by decide) rfl wf_X0_39 (v := .int (nI sz)) rfl dX0_longestPath_6 ?_
      refine lv_icmp_ge (tgt := 31) hx hb dX0_longestPath_9 (by decide) (fun h9 => ?_) (fun h9 => ?_)
      · have hb9 := g_le (a := sz) (b := i) h9 (by omega) (by omega)
        have hi2 : i = sz := by omega
        refine lv_iload_n hx hb dX0_longestPath_31 rfl (lv_at hl 1 rfl) ?_
        rw [← hQ]
        exact W.iret (v := lg_ (T 7) i) hx hb hr (fun t ht _ => g_fin (⟨by rw [← hi2], rfl⟩) hP hS ht) hS.2.2 dX0_longestPath_32 hlocks
      · have hb9 := g_nle (a := sz) (b := i) h9 (by omega) (by omega)
        refine lv_iload_n hx hb dX0_longestPath_12 rfl (lv_at hl 1 rfl) ?_
        refine lv_aload_n hx hb dX0_longestPath_13 rfl (lv_at hl 2 rfl) ?_
        refine g_get hx hb hts hE hown hP g_inX0 rfl (by decide) h10 7 (by decide) rfl wf_X0_33 (v := .ref (ad_ D 18)) rfl dX0_longestPath_14 ?_
        refine lv_iload_n hx hb dX0_longestPath_17 rfl (lv_at hl 0 rfl) ?_
        refine g_callN0 (y := yX2_read) (n := 2) (As := [.ref (ad_ D 18), .int (nI i)]) (rest := [.int (lg_ (T 7) i)]) hx hb hml hown hts hE hZ hP hS hl.1 (m_X2_read l D hAD σ 18 95 (T 7) (nI i) (by decide) (by decide) h18) k_X0_56 rfl rfl ⟨rfl, rfl⟩ ⟨Nat.le_of_ble_eq_true rfl, Nat.le_of_ble_eq_true rfl⟩ (Nat.le_of_ble_eq_true rfl) ⟨Nat.le_of_ble_eq_true rfl, Nat.le_of_ble_eq_true rfl⟩ dX0_longestPath_18 (fun v1 σ_2 H locs hq hP hS => ?_)
        obtain ⟨rfl, rfl⟩ := hq
        refine W.eq (g2 := F0 m 21 ls [.int (rd_ (T 7) 95 (nI i)), .int (lg_ (T 7) i)]) rfl ?_
        refine g_top (y := T 7 i) (rd_in (by omega) (by decide)) ?_
        refine g_mmax hx hb (hml.trans hl.1.symm) hown hts k_X0_72 k_max ⟨Nat.le_of_ble_eq_true rfl, Nat.le_of_ble_eq_true rfl, by omega, by omega⟩ dX0_longestPath_21 ?_
        refine lv_istore_n (lv' := [(1, .int (if lg_ (T 7) i < T 7 i then T 7 i else lg_ (T 7) i)), (2, .int (nI i)), (0, .ref (ad_ D 10))]) hx hb dX0_longestPath_24 rfl hl (by decide) rfl (fun ls hl => ?_)
        refine lv_iinc (v := nI (i + 1)) (lv' := [(2, .int (nI (i + 1))), (1, .int (if lg_ (T 7) i < T 7 i then T 7 i else lg_ (T 7) i)), (0, .ref (ad_ D 10))]) hx hb dX0_longestPath_25 hl (k := 1) rfl (g_inc i) (by decide) rfl (fun ls hl => ?_)
        refine lv_goto (tgt := 4) hx hb dX0_longestPath_28 (by decide) ?_
        exact ih4 (i + 1) (by omega) (by omega) _ _ hP hS ls (lv_sub hl [0, 1, 2] rfl)
  exact K4 ((sz - 0) + 1) 0 (Nat.lt_succ_self _) (Nat.zero_le _) _ _ hP hS ls (lv_sub hl [0, 1, 2] rfl)

abbrev m_X0_addedPaths_rm : Room := { frames := 10, cells := 0, slots := 0, locals := 242 }
set_option maxHeartbeats 4000000 in
set_option maxRecDepth 100000 in
theorem m_X0_addedPaths (l : Launch) (D : va_G) (hAD : g_AD D) (σ : Nat → va_E) (sz : Nat) (T : Nat → Nat → Int32) (hG : g_S D σ sz T)   : g_M l D yX0_addedPaths cX0_addedPaths 3 (some .int) m_X0_addedPaths_rm [.ref (ad_ D 10)] σ (fun v1 σ1 => v1 = some (.int (ap_ (T 0) (T 7) sz)) ∧ σ = σ1) := by
  refine g_ofW [(0, .ref (ad_ D 10))] (by decide +kernel) (Nat.le_of_ble_eq_true rfl) rfl ?_
  intro p e s m args below meth c hx hb hr hml hown hlocks hts hE hZ hP hS hnm ls hl
  have hown : s.vm.findClass RX0 = some m.cls := hown
  generalize hQ : MQ _ _ _ _ _ _ _ = Q
  obtain ⟨h10, h11, h12, h13, h14, h15, h16, h17, h18, h19, hsz⟩ := id hG
  refine lv_iconst (v := nI 0) hx hb dX0_addedPaths_0 (by decide) ?_
  refine lv_istore_n (lv' := [(1, .int (nI 0)), (0, .ref (ad_ D 10))]) hx hb dX0_addedPaths_1 rfl hl (by decide) rfl (fun ls hl => ?_)
  refine lv_iconst (v := nI 0) hx hb dX0_addedPaths_2 (by decide) ?_
  refine lv_istore_n (lv' := [(2, .int (nI 0)), (1, .int (nI 0)), (0, .ref (ad_ D 10))]) hx hb dX0_addedPaths_3 rfl hl (by decide) rfl (fun ls hl => ?_)
  have K4 : ∀ (fuel4 : Nat) (i : Nat), (sz - i) < fuel4 → (i ≤ sz) → ∀ (H : Heap) (locs : List Loc), va_P D vwCl (g_W D σ) H → va_S (g_A D s.heap.size) s.heap H locs → ∀ ls : Array Slot, lv_has ls 3 [(2, .int (nI i)), (1, .int (ap_ (T 0) (T 7) i)), (0, .ref (ad_ D 10))] → W p l e m_X0_addedPaths_rm s m args below meth c H locs 0 0 Q (F0 m 4 ls []) := by
    intro fuel4
    induction fuel4 with
    | zero => intro i hf; exact absurd hf (Nat.not_lt_zero _)
    | succ fuel4 ih4 =>
      intro i hf4 hi H locs hP hS ls hl
      refine lv_iload_n hx hb dX0_addedPaths_4 rfl (lv_at hl 0 rfl) ?_
      refine lv_aload_n hx hb dX0_addedPaths_5 rfl (lv_at hl 2 rfl) ?_
      refine g_get hx hb hts hE hown hP g_inX0 rfl (by decide) h10 9 (by decide) rfl wf_X0_39 (v := .int (nI sz)) rfl dX0_addedPaths_6 ?_
      refine lv_icmp_ge (tgt := 37) hx hb dX0_addedPaths_9 (by decide) (fun h9 => ?_) (fun h9 => ?_)
      · have hb9 := g_le (a := sz) (b := i) h9 (by omega) (by omega)
        have hi2 : i = sz := by omega
        refine lv_iload_n hx hb dX0_addedPaths_37 rfl (lv_at hl 1 rfl) ?_
        rw [← hQ]
        exact W.iret (v := ap_ (T 0) (T 7) i) hx hb hr (fun t ht _ => g_fin (⟨by rw [← hi2], rfl⟩) hP hS ht) hS.2.2 dX0_addedPaths_38 hlocks
      · have hb9 := g_nle (a := sz) (b := i) h9 (by omega) (by omega)
        refine lv_aload_n hx hb dX0_addedPaths_12 rfl (lv_at hl 2 rfl) ?_
        refine lv_iload_n hx hb dX0_addedPaths_13 rfl (lv_at hl 0 rfl) ?_
        refine g_callV0 (y := yX0_isPost) (n := 1) (As := [.int (nI i)]) (rest := []) hx hb hml hown hts hE hZ hP hS hl.1 (m_X0_isPost l D hAD σ sz T hG i (by omega)) k_X0_68 (ci := 0) (by decide) hG.1 rfl rfl rfl rfl rfl ⟨rfl, rfl⟩ ⟨Nat.le_of_ble_eq_true rfl, Nat.le_of_ble_eq_true rfl⟩ (Nat.le_of_ble_eq_true rfl) ⟨Nat.le_of_ble_eq_true rfl, Nat.le_of_ble_eq_true rfl⟩ dX0_addedPaths_14 (fun v1 σ_2 H locs hq hP hS => ?_)
        obtain ⟨rfl, rfl⟩ := hq
        refine W.eq (g2 := F0 m 17 ls [.int (if T 0 i = -1 then 0 else 1)]) rfl ?_
        refine lv_if_ne (tgt := 31) hx hb dX0_addedPaths_17 (by decide) (fun h17 => ?_) (fun h17 => ?_)
        · have hq17 := g_ip1 h17
          have hfx3 : ap_ (T 0) (T 7) i = ap_ (T 0) (T 7) (i + 1) := by rw [ap_, if_neg hq17]
          rw [hfx3] at hl
          refine lv_iinc (v := nI (i + 1)) (lv' := [(2, .int (nI (i + 1))), (1, .int (ap_ (T 0) (T 7) (i + 1))), (0, .ref (ad_ D 10))]) hx hb dX0_addedPaths_31 hl (k := 0) rfl (g_inc i) (by decide) rfl (fun ls hl => ?_)
          refine lv_goto (tgt := 4) hx hb dX0_addedPaths_34 (by decide) ?_
          exact ih4 (i + 1) (by omega) (by omega) _ _ hP hS ls (lv_sub hl [0, 1, 2] rfl)
        · have hq17 := g_ip0 h17
          refine lv_iload_n hx hb dX0_addedPaths_20 rfl (lv_at hl 1 rfl) ?_
          refine lv_aload_n hx hb dX0_addedPaths_21 rfl (lv_at hl 2 rfl) ?_
          refine g_get hx hb hts hE hown hP g_inX0 rfl (by decide) h10 7 (by decide) rfl wf_X0_33 (v := .ref (ad_ D 18)) rfl dX0_addedPaths_22 ?_
          refine lv_iload_n hx hb dX0_addedPaths_25 rfl (lv_at hl 0 rfl) ?_
          refine g_callN0 (y := yX2_read) (n := 2) (As := [.ref (ad_ D 18), .int (nI i)]) (rest := [.int (ap_ (T 0) (T 7) i)]) hx hb hml hown hts hE hZ hP hS hl.1 (m_X2_read l D hAD σ 18 95 (T 7) (nI i) (by decide) (by decide) h18) k_X0_56 rfl rfl ⟨rfl, rfl⟩ ⟨Nat.le_of_ble_eq_true rfl, Nat.le_of_ble_eq_true rfl⟩ (Nat.le_of_ble_eq_true rfl) ⟨Nat.le_of_ble_eq_true rfl, Nat.le_of_ble_eq_true rfl⟩ dX0_addedPaths_26 (fun v4 σ_5 H locs hq hP hS => ?_)
          obtain ⟨rfl, rfl⟩ := hq
          refine W.eq (g2 := F0 m 29 ls [.int (rd_ (T 7) 95 (nI i)), .int (ap_ (T 0) (T 7) i)]) rfl ?_
          refine g_top (y := T 7 i) (rd_in (by omega) (by decide)) ?_
          refine lv_iadd hx hb dX0_addedPaths_29 ?_
          refine lv_istore_n (lv' := [(1, .int ((ap_ (T 0) (T 7) i) + (T 7 i))), (2, .int (nI i)), (0, .ref (ad_ D 10))]) hx hb dX0_addedPaths_30 rfl hl (by decide) rfl (fun ls hl => ?_)
          have hfx6 : (ap_ (T 0) (T 7) i) + (T 7 i) = ap_ (T 0) (T 7) (i + 1) := by rw [ap_, if_pos hq17]
          rw [hfx6] at hl
          refine lv_iinc (v := nI (i + 1)) (lv' := [(2, .int (nI (i + 1))), (1, .int (ap_ (T 0) (T 7) (i + 1))), (0, .ref (ad_ D 10))]) hx hb dX0_addedPaths_31 hl (k := 1) rfl (g_inc i) (by decide) rfl (fun ls hl => ?_)
          refine lv_goto (tgt := 4) hx hb dX0_addedPaths_34 (by decide) ?_
          exact ih4 (i + 1) (by omega) (by omega) _ _ hP hS ls (lv_sub hl [0, 1, 2] rfl)
  exact K4 ((sz - 0) + 1) 0 (Nat.lt_succ_self _) (Nat.zero_le _) _ _ hP hS ls (lv_sub hl [0, 1, 2] rfl)

abbrev m_X0_bestGivenUp_rm : Room := { frames := 10, cells := 0, slots := 0, locals := 242 }
set_option maxHeartbeats 4000000 in
set_option maxRecDepth 100000 in
theorem m_X0_bestGivenUp (l : Launch) (D : va_G) (hAD : g_AD D) (σ : Nat → va_E) (sz : Nat) (T : Nat → Nat → Int32) (hG : g_S D σ sz T)   : g_M l D yX0_bestGivenUp cX0_bestGivenUp 5 (some .int) m_X0_bestGivenUp_rm [.ref (ad_ D 10)] σ (fun v1 σ1 => v1 = some (.int (bs_ T sz).1) ∧ σ = σ1) := by
  refine g_ofW [(0, .ref (ad_ D 10))] (by decide +kernel) (Nat.le_of_ble_eq_true rfl) rfl ?_
  intro p e s m args below meth c hx hb hr hml hown hlocks hts hE hZ hP hS hnm ls hl
  have hown : s.vm.findClass RX0 = some m.cls := hown
  generalize hQ : MQ _ _ _ _ _ _ _ = Q
  obtain ⟨h10, h11, h12, h13, h14, h15, h16, h17, h18, h19, hsz⟩ := id hG
  refine lv_iconst (v := (-1)) hx hb dX0_bestGivenUp_0 (by decide) ?_
  refine lv_istore_n (lv' := [(1, .int ((-1))), (0, .ref (ad_ D 10))]) hx hb dX0_bestGivenUp_1 rfl hl (by decide) rfl (fun ls hl => ?_)
  refine lv_iconst (v := (-1)) hx hb dX0_bestGivenUp_2 (by decide) ?_
  refine lv_istore_n (lv' := [(2, .int ((-1))), (1, .int ((-1))), (0, .ref (ad_ D 10))]) hx hb dX0_bestGivenUp_3 rfl hl (by decide) rfl (fun ls hl => ?_)
  refine lv_iconst (v := nI 0) hx hb dX0_bestGivenUp_4 (by decide) ?_
  refine lv_istore_n (lv' := [(3, .int (nI 0)), (2, .int ((-1))), (1, .int ((-1))), (0, .ref (ad_ D 10))]) hx hb dX0_bestGivenUp_5 rfl hl (by decide) rfl (fun ls hl => ?_)
  have K6 : ∀ (fuel6 : Nat) (i : Nat), (sz - i) < fuel6 → (i ≤ sz) → ∀ (H : Heap) (locs : List Loc), va_P D vwCl (g_W D σ) H → va_S (g_A D s.heap.size) s.heap H locs → ∀ ls : Array Slot, lv_has ls 5 [(3, .int (nI i)), (1, .int ((bs_ T i).1)), (2, .int ((bs_ T i).2)), (0, .ref (ad_ D 10))] → W p l e m_X0_bestGivenUp_rm s m args below meth c H locs 0 0 Q (F0 m 6 ls []) := by
    intro fuel6
    induction fuel6 with
    | zero => intro i hf; exact absurd hf (Nat.not_lt_zero _)
    | succ fuel6 ih6 =>
      intro i hf6 hi H locs hP hS ls hl
      refine lv_iload_n hx hb dX0_bestGivenUp_6 rfl (lv_at hl 0 rfl) ?_
      refine lv_aload_n hx hb dX0_bestGivenUp_7 rfl (lv_at hl 3 rfl) ?_
      refine g_get hx hb hts hE hown hP g_inX0 rfl (by decide) h10 9 (by decide) rfl wf_X0_39 (v := .int (nI sz)) rfl dX0_bestGivenUp_8 ?_
      refine lv_icmp_ge (tgt := 65) hx hb dX0_bestGivenUp_11 (by decide) (fun h11 => ?_) (fun h11 => ?_)
      · have hb11 := g_le (a := sz) (b := i) h11 (by omega) (by omega)
        have hi2 : i = sz := by omega
        refine lv_iload_n hx hb dX0_bestGivenUp_65 rfl (lv_at hl 1 rfl) ?_
        rw [← hQ]
        exact W.iret (v := (bs_ T i).1) hx hb hr (fun t ht _ => g_fin (⟨by rw [← hi2], rfl⟩) hP hS ht) hS.2.2 dX0_bestGivenUp_66 hlocks
      · have hb11 := g_nle (a := sz) (b := i) h11 (by omega) (by omega)
        refine lv_aload_n hx hb dX0_bestGivenUp_14 rfl (lv_at hl 3 rfl) ?_
        refine g_get hx hb hts hE hown hP g_inX0 rfl (by decide) h10 7 (by decide) rfl wf_X0_33 (v := .ref (ad_ D 18)) rfl dX0_bestGivenUp_15 ?_
        refine lv_iload_n hx hb dX0_bestGivenUp_18 rfl (lv_at hl 0 rfl) ?_
        refine g_callN0 (y := yX2_read) (n := 2) (As := [.ref (ad_ D 18), .int (nI i)]) (rest := []) hx hb hml hown hts hE hZ hP hS hl.1 (m_X2_read l D hAD σ 18 95 (T 7) (nI i) (by decide) (by decide) h18) k_X0_56 rfl rfl ⟨rfl, rfl⟩ ⟨Nat.le_of_ble_eq_true rfl, Nat.le_of_ble_eq_true rfl⟩ (Nat.le_of_ble_eq_true rfl) ⟨Nat.le_of_ble_eq_true rfl, Nat.le_of_ble_eq_true rfl⟩ dX0_bestGivenUp_19 (fun v1 σ_2 H locs hq hP hS => ?_)
        obtain ⟨rfl, rfl⟩ := hq
        refine W.eq (g2 := F0 m 22 ls [.int (rd_ (T 7) 95 (nI i))]) rfl ?_
        refine g_top (y := T 7 i) (rd_in (by omega) (by decide)) ?_
        refine lv_aload_n hx hb dX0_bestGivenUp_22 rfl (lv_at hl 3 rfl) ?_
        refine g_get hx hb hts hE hown hP g_inX0 rfl (by decide) h10 8 (by decide) rfl wf_X0_36 (v := .ref (ad_ D 19)) rfl dX0_bestGivenUp_23 ?_
        refine lv_iload_n hx hb dX0_bestGivenUp_26 rfl (lv_at hl 0 rfl) ?_
        refine g_callN0 (y := yX2_read) (n := 2) (As := [.ref (ad_ D 19), .int (nI i)]) (rest := [.int (T 7 i)]) hx hb hml hown hts hE hZ hP hS hl.1 (m_X2_read l D hAD σ 19 95 (T 8) (nI i) (by decide) (by decide) h19) k_X0_56 rfl rfl ⟨rfl, rfl⟩ ⟨Nat.le_of_ble_eq_true rfl, Nat.le_of_ble_eq_true rfl⟩ (Nat.le_of_ble_eq_true rfl) ⟨Nat.le_of_ble_eq_true rfl, Nat.le_of_ble_eq_true rfl⟩ dX0_bestGivenUp_27 (fun v3 σ_4 H locs hq hP hS => ?_)
        obtain ⟨rfl, rfl⟩ := hq
        refine W.eq (g2 := F0 m 30 ls [.int (rd_ (T 8) 95 (nI i)), .int (T 7 i)]) rfl ?_
        refine g_top (y := T 8 i) (rd_in (by omega) (by decide)) ?_
        refine lv_iadd hx hb dX0_bestGivenUp_30 ?_
        refine lv_istore (lv' := [(4, .int ((T 7 i) + (T 8 i))), (3, .int (nI i)), (1, .int ((bs_ T i).1)), (2, .int ((bs_ T i).2)), (0, .ref (ad_ D 10))]) hx hb dX0_bestGivenUp_31 hl (by decide) rfl (fun ls hl => ?_)
        refine lv_aload_n hx hb dX0_bestGivenUp_33 rfl (lv_at hl 4 rfl) ?_
        refine lv_iload_n hx hb dX0_bestGivenUp_34 rfl (lv_at hl 1 rfl) ?_
        refine g_callV0 (y := yX0_isPost) (n := 1) (As := [.int (nI i)]) (rest := []) hx hb hml hown hts hE hZ hP hS hl.1 (m_X0_isPost l D hAD σ sz T hG i (by omega)) k_X0_68 (ci := 0) (by decide) hG.1 rfl rfl rfl rfl rfl ⟨rfl, rfl⟩ ⟨Nat.le_of_ble_eq_true rfl, Nat.le_of_ble_eq_true rfl⟩ (Nat.le_of_ble_eq_true rfl) ⟨Nat.le_of_ble_eq_true rfl, Nat.le_of_ble_eq_true rfl⟩ dX0_bestGivenUp_35 (fun v5 σ_6 H locs hq hP hS => ?_)
        obtain ⟨rfl, rfl⟩ := hq
        refine W.eq (g2 := F0 m 38 ls [.int (if T 0 i = -1 then 0 else 1)]) rfl ?_
        refine lv_if_ne (tgt := 59) hx hb dX0_bestGivenUp_38 (by decide) (fun h38 => ?_) (fun h38 => ?_)
        · have hq38 := g_ip1 h38
          have hst9 : bs_ T (i + 1) = bs_ T i := by rw [bs_, if_neg (fun q => hq38 q.1)]
          have hf1 : (bs_ T i).1 = (bs_ T (i + 1)).1 := by rw [hst9]
          have hf2 : (bs_ T i).2 = (bs_ T (i + 1)).2 := by rw [hst9]
          have hl := lv_sub hl [2, 3, 1, 4] (l' := [(1, .int (bs_ T (i + 1)).1), (2, .int (bs_ T (i + 1)).2), (3, .int (nI i)), (0, .ref (ad_ D 10))]) (by rw [← hf1, ← hf2]; rfl)
          refine lv_iinc (v := nI (i + 1)) (lv' := [(3, .int (nI (i + 1))), (1, .int ((bs_ T (i + 1)).1)), (2, .int ((bs_ T (i + 1)).2)), (0, .ref (ad_ D 10))]) hx hb dX0_bestGivenUp_59 hl (k := 2) rfl (g_inc i) (by decide) rfl (fun ls hl => ?_)
          refine lv_goto (tgt := 6) hx hb dX0_bestGivenUp_62 (by decide) ?_
          exact ih6 (i + 1) (by omega) (by omega) _ _ hP hS ls (lv_sub hl [0, 1, 2, 3] rfl)
        · have hq38 := g_ip0 h38
          refine lv_iload hx hb dX0_bestGivenUp_41 (lv_at hl 0 rfl) ?_
          refine lv_iload_n hx hb dX0_bestGivenUp_43 rfl (lv_at hl 3 rfl) ?_
          refine lv_icmp_le (tgt := 59) hx hb dX0_bestGivenUp_44 (by decide) (fun h44 => ?_) (fun h44 => ?_)
          · have hst9 : bs_ T (i + 1) = bs_ T i := by rw [bs_, if_neg (fun q => Int32.not_lt.mpr h44 q.2)]
            have hf1 : (bs_ T i).1 = (bs_ T (i + 1)).1 := by rw [hst9]
            have hf2 : (bs_ T i).2 = (bs_ T (i + 1)).2 := by rw [hst9]
            have hl := lv_sub hl [2, 3, 1, 4] (l' := [(1, .int (bs_ T (i + 1)).1), (2, .int (bs_ T (i + 1)).2), (3, .int (nI i)), (0, .ref (ad_ D 10))]) (by rw [← hf1, ← hf2]; rfl)
            refine lv_iinc (v := nI (i + 1)) (lv' := [(3, .int (nI (i + 1))), (1, .int ((bs_ T (i + 1)).1)), (2, .int ((bs_ T (i + 1)).2)), (0, .ref (ad_ D 10))]) hx hb dX0_bestGivenUp_59 hl (k := 2) rfl (g_inc i) (by decide) rfl (fun ls hl => ?_)
            refine lv_goto (tgt := 6) hx hb dX0_bestGivenUp_62 (by decide) ?_
            exact ih6 (i + 1) (by omega) (by omega) _ _ hP hS ls (lv_sub hl [0, 1, 2, 3] rfl)
          · refine lv_iload hx hb dX0_bestGivenUp_47 (lv_at hl 0 rfl) ?_
            refine lv_istore_n (lv' := [(2, .int ((T 7 i) + (T 8 i))), (4, .int ((T 7 i) + (T 8 i))), (3, .int (nI i)), (1, .int ((bs_ T i).1)), (0, .ref (ad_ D 10))]) hx hb dX0_bestGivenUp_49 rfl hl (by decide) rfl (fun ls hl => ?_)
            refine lv_aload_n hx hb dX0_bestGivenUp_50 rfl (lv_at hl 4 rfl) ?_
            refine g_get hx hb hts hE hown hP g_inX0 rfl (by decide) h10 3 (by decide) rfl wf_X0_21 (v := .ref (ad_ D 14)) rfl dX0_bestGivenUp_51 ?_
            refine lv_iload_n hx hb dX0_bestGivenUp_54 rfl (lv_at hl 2 rfl) ?_
            refine g_callN0 (y := yX2_read) (n := 2) (As := [.ref (ad_ D 14), .int (nI i)]) (rest := []) hx hb hml hown hts hE hZ hP hS hl.1 (m_X2_read l D hAD σ 14 95 (T 3) (nI i) (by decide) (by decide) h14) k_X0_56 rfl rfl ⟨rfl, rfl⟩ ⟨Nat.le_of_ble_eq_true rfl, Nat.le_of_ble_eq_true rfl⟩ (Nat.le_of_ble_eq_true rfl) ⟨Nat.le_of_ble_eq_true rfl, Nat.le_of_ble_eq_true rfl⟩ dX0_bestGivenUp_55 (fun v7 σ_8 H locs hq hP hS => ?_)
            obtain ⟨rfl, rfl⟩ := hq
            refine W.eq (g2 := F0 m 58 ls [.int (rd_ (T 3) 95 (nI i))]) rfl ?_
            refine g_top (y := T 3 i) (rd_in (by omega) (by decide)) ?_
            refine lv_istore_n (lv' := [(1, .int (T 3 i)), (2, .int ((T 7 i) + (T 8 i))), (4, .int ((T 7 i) + (T 8 i))), (3, .int (nI i)), (0, .ref (ad_ D 10))]) hx hb dX0_bestGivenUp_58 rfl hl (by decide) rfl (fun ls hl => ?_)
            have hst9 : bs_ T (i + 1) = (T 3 i, T 7 i + T 8 i) := by rw [bs_, if_pos ⟨hq38, Int32.not_le.mp h44⟩]
            have hf1 : T 3 i = (bs_ T (i + 1)).1 := by rw [hst9]
            have hf2 : T 7 i + T 8 i = (bs_ T (i + 1)).2 := by rw [hst9]
            have hl := lv_sub hl [0, 1, 3, 4] (l' := [(1, .int (bs_ T (i + 1)).1), (2, .int (bs_ T (i + 1)).2), (3, .int (nI i)), (0, .ref (ad_ D 10))]) (by rw [← hf1, ← hf2]; rfl)
            refine lv_iinc (v := nI (i + 1)) (lv' := [(3, .int (nI (i + 1))), (1, .int ((bs_ T (i + 1)).1)), (2, .int ((bs_ T (i + 1)).2)), (0, .ref (ad_ D 10))]) hx hb dX0_bestGivenUp_59 hl (k := 2) rfl (g_inc i) (by decide) rfl (fun ls hl => ?_)
            refine lv_goto (tgt := 6) hx hb dX0_bestGivenUp_62 (by decide) ?_
            exact ih6 (i + 1) (by omega) (by omega) _ _ hP hS ls (lv_sub hl [0, 1, 2, 3] rfl)
  exact K6 ((sz - 0) + 1) 0 (Nat.lt_succ_self _) (Nat.zero_le _) _ _ hP hS ls (lv_sub hl [0, 2, 1, 3] rfl)

abbrev m_X0_tell_rm : Room := { frames := 9, cells := 0, slots := 0, locals := 221 }
set_option maxHeartbeats 4000000 in
set_option maxRecDepth 100000 in
theorem m_X0_tell (l : Launch) (D : va_G) (hAD : g_AD D) (σ : Nat → va_E) (sz : Nat) (T : Nat → Nat → Int32) (hG : g_S D σ sz T) (p9 w9 : Nat) (hp : p9 < 95) (hw : w9 ≤ 6) : g_M l D yX0_tell cX0_tell 3 (some .int) m_X0_tell_rm [.ref (ad_ D 10), .int (nI p9), .int (nI w9)] σ (fun v1 σ1 => v1 = some (.int (tel_ T w9 p9)) ∧ σ = σ1) := by
  refine g_ofW [(0, .ref (ad_ D 10)), (1, .int (nI p9)), (2, .int (nI w9))] (by decide +kernel) (Nat.le_of_ble_eq_true rfl) rfl ?_
  intro p e s m args below meth c hx hb hr hml hown hlocks hts hE hZ hP hS hnm ls hl
  have hown : s.vm.findClass RX0 = some m.cls := hown
  generalize hQ : MQ _ _ _ _ _ _ _ = Q
  obtain ⟨h10, h11, h12, h13, h14, h15, h16, h17, h18, h19, hsz⟩ := id hG
  refine lv_iload_n hx hb dX0_tell_0 rfl (lv_at hl 2 rfl) ?_
  rcases (show w9 = 0 ∨ w9 = 1 ∨ w9 = 2 ∨ w9 = 3 ∨ w9 = 4 ∨ w9 = 5 ∨ w9 = 6 by omega) with rfl | rfl | rfl | rfl | rfl | rfl | rfl
  · refine lv_tableIn (x := nI 0) (off := 39) (tgt := 40) hx hb dX0_tell_1 (by decide) (by decide) rfl (by decide) ?_
    refine lv_aload_n hx hb dX0_tell_40 rfl (lv_at hl 0 rfl) ?_
    refine g_get hx hb hts hE hown hP g_inX0 rfl (by decide) h10 0 (by decide) rfl wf_X0_9 (v := .ref (ad_ D 11)) rfl dX0_tell_41 ?_
    refine lv_iload_n hx hb dX0_tell_44 rfl (lv_at hl 1 rfl) ?_
    refine g_callN0 (y := yX2_read) (n := 2) (As := [.ref (ad_ D 11), .int (nI p9)]) (rest := []) hx hb hml hown hts hE hZ hP hS hl.1 (m_X2_read l D hAD σ 11 95 (T 0) (nI p9) (by decide) (by decide) h11) k_X0_56 rfl rfl ⟨rfl, rfl⟩ ⟨Nat.le_of_ble_eq_true rfl, Nat.le_of_ble_eq_true rfl⟩ (Nat.le_of_ble_eq_true rfl) ⟨Nat.le_of_ble_eq_true rfl, Nat.le_of_ble_eq_true rfl⟩ dX0_tell_45 (fun v1 σ_2 H locs hq hP hS => ?_)
    obtain ⟨rfl, rfl⟩ := hq
    refine W.eq (g2 := F0 m 48 ls [.int (rd_ (T 0) 95 (nI p9))]) rfl ?_
    refine g_top (y := T 0 p9) (rd_in (by omega) (by decide)) ?_
    rw [← hQ]
    exact W.iret (v := T 0 p9) hx hb hr (fun t ht _ => g_fin (⟨rfl, rfl⟩) hP hS ht) hS.2.2 dX0_tell_48 hlocks
  · refine lv_tableIn (x := nI 1) (off := 48) (tgt := 49) hx hb dX0_tell_1 (by decide) (by decide) rfl (by decide) ?_
    refine lv_aload_n hx hb dX0_tell_49 rfl (lv_at hl 0 rfl) ?_
    refine g_get hx hb hts hE hown hP g_inX0 rfl (by decide) h10 2 (by decide) rfl wf_X0_18 (v := .ref (ad_ D 13)) rfl dX0_tell_50 ?_
    refine lv_iload_n hx hb dX0_tell_53 rfl (lv_at hl 1 rfl) ?_
    refine g_callN0 (y := yX2_read) (n := 2) (As := [.ref (ad_ D 13), .int (nI p9)]) (rest := []) hx hb hml hown hts hE hZ hP hS hl.1 (m_X2_read l D hAD σ 13 95 (T 2) (nI p9) (by decide) (by decide) h13) k_X0_56 rfl rfl ⟨rfl, rfl⟩ ⟨Nat.le_of_ble_eq_true rfl, Nat.le_of_ble_eq_true rfl⟩ (Nat.le_of_ble_eq_true rfl) ⟨Nat.le_of_ble_eq_true rfl, Nat.le_of_ble_eq_true rfl⟩ dX0_tell_54 (fun v3 σ_4 H locs hq hP hS => ?_)
    obtain ⟨rfl, rfl⟩ := hq
    refine W.eq (g2 := F0 m 57 ls [.int (rd_ (T 2) 95 (nI p9))]) rfl ?_
    refine g_top (y := T 2 p9) (rd_in (by omega) (by decide)) ?_
    rw [← hQ]
    exact W.iret (v := T 2 p9) hx hb hr (fun t ht _ => g_fin (⟨rfl, rfl⟩) hP hS ht) hS.2.2 dX0_tell_57 hlocks
  · refine lv_tableIn (x := nI 2) (off := 57) (tgt := 58) hx hb dX0_tell_1 (by decide) (by decide) rfl (by decide) ?_
    refine lv_aload_n hx hb dX0_tell_58 rfl (lv_at hl 0 rfl) ?_
    refine g_get hx hb hts hE hown hP g_inX0 rfl (by decide) h10 3 (by decide) rfl wf_X0_21 (v := .ref (ad_ D 14)) rfl dX0_tell_59 ?_
    refine lv_iload_n hx hb dX0_tell_62 rfl (lv_at hl 1 rfl) ?_
    refine g_callN0 (y := yX2_read) (n := 2) (As := [.ref (ad_ D 14), .int (nI p9)]) (rest := []) hx hb hml hown hts hE hZ hP hS hl.1 (m_X2_read l D hAD σ 14 95 (T 3) (nI p9) (by decide) (by decide) h14) k_X0_56 rfl rfl ⟨rfl, rfl⟩ ⟨Nat.le_of_ble_eq_true rfl, Nat.le_of_ble_eq_true rfl⟩ (Nat.le_of_ble_eq_true rfl) ⟨Nat.le_of_ble_eq_true rfl, Nat.le_of_ble_eq_true rfl⟩ dX0_tell_63 (fun v5 σ_6 H locs hq hP hS => ?_)
    obtain ⟨rfl, rfl⟩ := hq
    refine W.eq (g2 := F0 m 66 ls [.int (rd_ (T 3) 95 (nI p9))]) rfl ?_
    refine g_top (y := T 3 p9) (rd_in (by omega) (by decide)) ?_
    rw [← hQ]
    exact W.iret (v := T 3 p9) hx hb hr (fun t ht _ => g_fin (⟨rfl, rfl⟩) hP hS ht) hS.2.2 dX0_tell_66 hlocks
  · refine lv_tableIn (x := nI 3) (off := 66) (tgt := 67) hx hb dX0_tell_1 (by decide) (by decide) rfl (by decide) ?_
    refine lv_aload_n hx hb dX0_tell_67 rfl (lv_at hl 0 rfl) ?_
    refine g_get hx hb hts hE hown hP g_inX0 rfl (by decide) h10 4 (by decide) rfl wf_X0_24 (v := .ref (ad_ D 15)) rfl dX0_tell_68 ?_
    refine lv_iload_n hx hb dX0_tell_71 rfl (lv_at hl 1 rfl) ?_
    refine g_callN0 (y := yX2_read) (n := 2) (As := [.ref (ad_ D 15), .int (nI p9)]) (rest := []) hx hb hml hown hts hE hZ hP hS hl.1 (m_X2_read l D hAD σ 15 95 (T 4) (nI p9) (by decide) (by decide) h15) k_X0_56 rfl rfl ⟨rfl, rfl⟩ ⟨Nat.le_of_ble_eq_true rfl, Nat.le_of_ble_eq_true rfl⟩ (Nat.le_of_ble_eq_true rfl) ⟨Nat.le_of_ble_eq_true rfl, Nat.le_of_ble_eq_true rfl⟩ dX0_tell_72 (fun v7 σ_8 H locs hq hP hS => ?_)
    obtain ⟨rfl, rfl⟩ := hq
    refine W.eq (g2 := F0 m 75 ls [.int (rd_ (T 4) 95 (nI p9))]) rfl ?_
    refine g_top (y := T 4 p9) (rd_in (by omega) (by decide)) ?_
    rw [← hQ]
    exact W.iret (v := T 4 p9) hx hb hr (fun t ht _ => g_fin (⟨rfl, rfl⟩) hP hS ht) hS.2.2 dX0_tell_75 hlocks
  · refine lv_tableIn (x := nI 4) (off := 75) (tgt := 76) hx hb dX0_tell_1 (by decide) (by decide) rfl (by decide) ?_
    refine lv_aload_n hx hb dX0_tell_76 rfl (lv_at hl 0 rfl) ?_
    refine g_get hx hb hts hE hown hP g_inX0 rfl (by decide) h10 5 (by decide) rfl wf_X0_27 (v := .ref (ad_ D 16)) rfl dX0_tell_77 ?_
    refine lv_iload_n hx hb dX0_tell_80 rfl (lv_at hl 1 rfl) ?_
    refine g_callN0 (y := yX2_read) (n := 2) (As := [.ref (ad_ D 16), .int (nI p9)]) (rest := []) hx hb hml hown hts hE hZ hP hS hl.1 (m_X2_read l D hAD σ 16 95 (T 5) (nI p9) (by decide) (by decide) h16) k_X0_56 rfl rfl ⟨rfl, rfl⟩ ⟨Nat.le_of_ble_eq_true rfl, Nat.le_of_ble_eq_true rfl⟩ (Nat.le_of_ble_eq_true rfl) ⟨Nat.le_of_ble_eq_true rfl, Nat.le_of_ble_eq_true rfl⟩ dX0_tell_81 (fun v9 σ_10 H locs hq hP hS => ?_)
    obtain ⟨rfl, rfl⟩ := hq
    refine W.eq (g2 := F0 m 84 ls [.int (rd_ (T 5) 95 (nI p9))]) rfl ?_
    refine g_top (y := T 5 p9) (rd_in (by omega) (by decide)) ?_
    rw [← hQ]
    exact W.iret (v := T 5 p9) hx hb hr (fun t ht _ => g_fin (⟨rfl, rfl⟩) hP hS ht) hS.2.2 dX0_tell_84 hlocks
  · refine lv_tableIn (x := nI 5) (off := 84) (tgt := 85) hx hb dX0_tell_1 (by decide) (by decide) rfl (by decide) ?_
    refine lv_aload_n hx hb dX0_tell_85 rfl (lv_at hl 0 rfl) ?_
    refine g_get hx hb hts hE hown hP g_inX0 rfl (by decide) h10 6 (by decide) rfl wf_X0_30 (v := .ref (ad_ D 17)) rfl dX0_tell_86 ?_
    refine lv_iload_n hx hb dX0_tell_89 rfl (lv_at hl 1 rfl) ?_
    refine g_callN0 (y := yX2_read) (n := 2) (As := [.ref (ad_ D 17), .int (nI p9)]) (rest := []) hx hb hml hown hts hE hZ hP hS hl.1 (m_X2_read l D hAD σ 17 95 (T 6) (nI p9) (by decide) (by decide) h17) k_X0_56 rfl rfl ⟨rfl, rfl⟩ ⟨Nat.le_of_ble_eq_true rfl, Nat.le_of_ble_eq_true rfl⟩ (Nat.le_of_ble_eq_true rfl) ⟨Nat.le_of_ble_eq_true rfl, Nat.le_of_ble_eq_true rfl⟩ dX0_tell_90 (fun v11 σ_12 H locs hq hP hS => ?_)
    obtain ⟨rfl, rfl⟩ := hq
    refine W.eq (g2 := F0 m 93 ls [.int (rd_ (T 6) 95 (nI p9))]) rfl ?_
    refine g_top (y := T 6 p9) (rd_in (by omega) (by decide)) ?_
    rw [← hQ]
    exact W.iret (v := T 6 p9) hx hb hr (fun t ht _ => g_fin (⟨rfl, rfl⟩) hP hS ht) hS.2.2 dX0_tell_93 hlocks
  · refine lv_tableOut (x := nI 6) (tgt := 94) hx hb dX0_tell_1 (by decide) (by decide) ?_
    refine lv_aload_n hx hb dX0_tell_94 rfl (lv_at hl 0 rfl) ?_
    refine g_get hx hb hts hE hown hP g_inX0 rfl (by decide) h10 7 (by decide) rfl wf_X0_33 (v := .ref (ad_ D 18)) rfl dX0_tell_95 ?_
    refine lv_iload_n hx hb dX0_tell_98 rfl (lv_at hl 1 rfl) ?_
    refine g_callN0 (y := yX2_read) (n := 2) (As := [.ref (ad_ D 18), .int (nI p9)]) (rest := []) hx hb hml hown hts hE hZ hP hS hl.1 (m_X2_read l D hAD σ 18 95 (T 7) (nI p9) (by decide) (by decide) h18) k_X0_56 rfl rfl ⟨rfl, rfl⟩ ⟨Nat.le_of_ble_eq_true rfl, Nat.le_of_ble_eq_true rfl⟩ (Nat.le_of_ble_eq_true rfl) ⟨Nat.le_of_ble_eq_true rfl, Nat.le_of_ble_eq_true rfl⟩ dX0_tell_99 (fun v13 σ_14 H locs hq hP hS => ?_)
    obtain ⟨rfl, rfl⟩ := hq
    refine W.eq (g2 := F0 m 102 ls [.int (rd_ (T 7) 95 (nI p9))]) rfl ?_
    refine g_top (y := T 7 p9) (rd_in (by omega) (by decide)) ?_
    rw [← hQ]
    exact W.iret (v := T 7 p9) hx hb hr (fun t ht _ => g_fin (⟨rfl, rfl⟩) hP hS ht) hS.2.2 dX0_tell_102 hlocks

abbrev m_X0_placeBy_rm : Room := { frames := 10, cells := 0, slots := 0, locals := 242 }
set_option maxHeartbeats 4000000 in
set_option maxRecDepth 100000 in
theorem m_X0_placeBy (l : Launch) (D : va_G) (hAD : g_AD D) (σ : Nat → va_E) (sz : Nat) (T : Nat → Nat → Int32) (hG : g_S D σ sz T) (x9 : Int32) (h0z : 0 < sz) (hch : ch_ sz T) : g_M l D yX0_placeBy cX0_placeBy 5 (some .int) m_X0_placeBy_rm [.ref (ad_ D 10), .int x9] σ (fun v1 σ1 => v1 = some (.int (nI (wk_ T x9 16 0))) ∧ σ = σ1) := by
  refine g_ofW [(0, .ref (ad_ D 10)), (1, .int x9)] (by decide +kernel) (Nat.le_of_ble_eq_true rfl) rfl ?_
  intro p e s m args below meth c hx hb hr hml hown hlocks hts hE hZ hP hS hnm ls hl
  have hown : s.vm.findClass RX0 = some m.cls := hown
  generalize hQ : MQ _ _ _ _ _ _ _ = Q
  obtain ⟨h10, h11, h12, h13, h14, h15, h16, h17, h18, h19, hsz⟩ := id hG
  refine lv_iconst (v := nI 0) hx hb dX0_placeBy_0 (by decide) ?_
  refine lv_istore_n (lv' := [(2, .int (nI 0)), (0, .ref (ad_ D 10)), (1, .int x9)]) hx hb dX0_placeBy_1 rfl hl (by decide) rfl (fun ls hl => ?_)
  refine lv_iconst (v := nI 0) hx hb dX0_placeBy_2 (by decide) ?_
  refine lv_istore_n (lv' := [(3, .int (nI 0)), (2, .int (nI 0)), (0, .ref (ad_ D 10)), (1, .int x9)]) hx hb dX0_placeBy_3 rfl hl (by decide) rfl (fun ls hl => ?_)
  have K4 : ∀ (fuel4 : Nat) (k9 p9 : Nat), (16 - k9) < fuel4 → (k9 ≤ 16) → (p9 < sz) → (wk_ T x9 (16 - k9) p9 = wk_ T x9 16 0) → ∀ (H : Heap) (locs : List Loc), va_P D vwCl (g_W D σ) H → va_S (g_A D s.heap.size) s.heap H locs → ∀ ls : Array Slot, lv_has ls 5 [(3, .int (nI k9)), (2, .int (nI p9)), (0, .ref (ad_ D 10)), (1, .int x9)] → W p l e m_X0_placeBy_rm s m args below meth c H locs 0 0 Q (F0 m 4 ls []) := by
    intro fuel4
    induction fuel4 with
    | zero => intro k9 p9 hf; exact absurd hf (Nat.not_lt_zero _)
    | succ fuel4 ih4 =>
      intro k9 p9 hf4 hk hp hI H locs hP hS ls hl
      refine lv_iload_n hx hb dX0_placeBy_4 rfl (lv_at hl 0 rfl) ?_
      refine lv_bipush (v := nI 16) hx hb dX0_placeBy_5 (by decide) ?_
      refine lv_icmp_ge (tgt := 63) hx hb dX0_placeBy_7 (by decide) (fun h7 => ?_) (fun h7 => ?_)
      · have hb7 := g_le (a := 16) (b := k9) h7 (by omega) (by omega)
        refine lv_iload_n hx hb dX0_placeBy_63 rfl (lv_at hl 1 rfl) ?_
        rw [← hQ]
        exact W.iret (v := nI p9) hx hb hr (fun t ht _ => g_fin (⟨by first | rw [← hI, wk_leaf hq15] | (rw [← hI, show 16 - k9 = 0 by omega]; rfl), rfl⟩) hP hS ht) hS.2.2 dX0_placeBy_64 hlocks
      · have hb7 := g_nle (a := 16) (b := k9) h7 (by omega) (by omega)
        refine lv_aload_n hx hb dX0_placeBy_10 rfl (lv_at hl 2 rfl) ?_
        refine lv_iload_n hx hb dX0_placeBy_11 rfl (lv_at hl 1 rfl) ?_
        refine g_callV0 (y := yX0_isPost) (n := 1) (As := [.int (nI p9)]) (rest := []) hx hb hml hown hts hE hZ hP hS hl.1 (m_X0_isPost l D hAD σ sz T hG p9 (by omega)) k_X0_68 (ci := 0) (by decide) hG.1 rfl rfl rfl rfl rfl ⟨rfl, rfl⟩ ⟨Nat.le_of_ble_eq_true rfl, Nat.le_of_ble_eq_true rfl⟩ (Nat.le_of_ble_eq_true rfl) ⟨Nat.le_of_ble_eq_true rfl, Nat.le_of_ble_eq_true rfl⟩ dX0_placeBy_12 (fun v1 σ_2 H locs hq hP hS => ?_)
        obtain ⟨rfl, rfl⟩ := hq
        refine W.eq (g2 := F0 m 15 ls [.int (if T 0 p9 = -1 then 0 else 1)]) rfl ?_
        refine lv_if_eq (tgt := 63) hx hb dX0_placeBy_15 (by decide) (fun h15 => ?_) (fun h15 => ?_)
        · have hq15 := g_ip0 h15
          refine lv_iload_n hx hb dX0_placeBy_63 rfl (lv_at hl 1 rfl) ?_
          rw [← hQ]
          exact W.iret (v := nI p9) hx hb hr (fun t ht _ => g_fin (⟨by first | rw [← hI, wk_leaf hq15] | (rw [← hI, show 16 - k9 = 0 by omega]; rfl), rfl⟩) hP hS ht) hS.2.2 dX0_placeBy_64 hlocks
        · have hq15 := g_ip1 h15
          obtain ⟨l9, r9, e5, e6, b5, b6⟩ := hch p9 hp hq15
          refine lv_iload_n hx hb dX0_placeBy_18 rfl (lv_at hl 3 rfl) ?_
          refine lv_aload_n hx hb dX0_placeBy_19 rfl (lv_at hl 2 rfl) ?_
          refine g_get hx hb hts hE hown hP g_inX0 rfl (by decide) h10 0 (by decide) rfl wf_X0_9 (v := .ref (ad_ D 11)) rfl dX0_placeBy_20 ?_
          refine lv_iload_n hx hb dX0_placeBy_23 rfl (lv_at hl 1 rfl) ?_
          refine g_callN0 (y := yX2_read) (n := 2) (As := [.ref (ad_ D 11), .int (nI p9)]) (rest := [.int x9]) hx hb hml hown hts hE hZ hP hS hl.1 (m_X2_read l D hAD σ 11 95 (T 0) (nI p9) (by decide) (by decide) h11) k_X0_56 rfl rfl ⟨rfl, rfl⟩ ⟨Nat.le_of_ble_eq_true rfl, Nat.le_of_ble_eq_true rfl⟩ (Nat.le_of_ble_eq_true rfl) ⟨Nat.le_of_ble_eq_true rfl, Nat.le_of_ble_eq_true rfl⟩ dX0_placeBy_24 (fun v3 σ_4 H locs hq hP hS => ?_)
          obtain ⟨rfl, rfl⟩ := hq
          refine W.eq (g2 := F0 m 27 ls [.int (rd_ (T 0) 95 (nI p9)), .int x9]) rfl ?_
          refine g_top (y := T 0 p9) (rd_in (by omega) (by decide)) ?_
          refine g_callN0 (y := yX2_hasBit) (n := 2) (As := [.int x9, .int (T 0 p9)]) (rest := []) hx hb hml hown hts hE hZ hP hS hl.1 (m_X2_hasBit l D hAD σ (x9) (T 0 p9)) k_X0_77 rfl rfl ⟨rfl, rfl⟩ ⟨Nat.le_of_ble_eq_true rfl, Nat.le_of_ble_eq_true rfl⟩ (Nat.le_of_ble_eq_true rfl) ⟨Nat.le_of_ble_eq_true rfl, Nat.le_of_ble_eq_true rfl⟩ dX0_placeBy_27 (fun v5 σ_6 H locs hq hP hS => ?_)
          obtain ⟨rfl, rfl⟩ := hq
          refine W.eq (g2 := F0 m 30 ls [.int (if hb_ (x9) (T 0 p9) then 1 else 0)]) rfl ?_
          refine lv_istore (lv' := [(4, .int (if hb_ (x9) (T 0 p9) then 1 else 0)), (3, .int (nI k9)), (2, .int (nI p9)), (0, .ref (ad_ D 10)), (1, .int x9)]) hx hb dX0_placeBy_30 hl (by decide) rfl (fun ls hl => ?_)
          refine lv_iload hx hb dX0_placeBy_32 (lv_at hl 0 rfl) ?_
          refine lv_if_eq (tgt := 48) hx hb dX0_placeBy_34 (by decide) (fun h34 => ?_) (fun h34 => ?_)
          · refine lv_aload_n hx hb dX0_placeBy_48 rfl (lv_at hl 3 rfl) ?_
            refine g_get hx hb hts hE hown hP g_inX0 rfl (by decide) h10 5 (by decide) rfl wf_X0_27 (v := .ref (ad_ D 16)) rfl dX0_placeBy_49 ?_
            refine lv_iload_n hx hb dX0_placeBy_52 rfl (lv_at hl 2 rfl) ?_
            refine g_callN0 (y := yX2_read) (n := 2) (As := [.ref (ad_ D 16), .int (nI p9)]) (rest := []) hx hb hml hown hts hE hZ hP hS hl.1 (m_X2_read l D hAD σ 16 95 (T 5) (nI p9) (by decide) (by decide) h16) k_X0_56 rfl rfl ⟨rfl, rfl⟩ ⟨Nat.le_of_ble_eq_true rfl, Nat.le_of_ble_eq_true rfl⟩ (Nat.le_of_ble_eq_true rfl) ⟨Nat.le_of_ble_eq_true rfl, Nat.le_of_ble_eq_true rfl⟩ dX0_placeBy_53 (fun v7 σ_8 H locs hq hP hS => ?_)
            obtain ⟨rfl, rfl⟩ := hq
            refine W.eq (g2 := F0 m 56 ls [.int (rd_ (T 5) 95 (nI p9))]) rfl ?_
            refine g_top (y := nI l9) ((rd_in (by omega) (by decide)).trans e5) ?_
            refine lv_istore_n (lv' := [(2, .int (nI l9)), (4, .int (if hb_ (x9) (T 0 p9) then 1 else 0)), (3, .int (nI k9)), (0, .ref (ad_ D 10)), (1, .int x9)]) hx hb dX0_placeBy_56 rfl hl (by decide) rfl (fun ls hl => ?_)
            refine lv_iinc (v := nI (k9 + 1)) (lv' := [(3, .int (nI (k9 + 1))), (2, .int (nI l9)), (4, .int (if hb_ (x9) (T 0 p9) then 1 else 0)), (0, .ref (ad_ D 10)), (1, .int x9)]) hx hb dX0_placeBy_57 hl (k := 2) rfl (g_inc k9) (by decide) rfl (fun ls hl => ?_)
            refine lv_goto (tgt := 4) hx hb dX0_placeBy_60 (by decide) ?_
            exact ih4 (k9 + 1) l9 (by omega) (by omega) (by omega) (by rw [← hI, show 16 - k9 = (16 - (k9 + 1)) + 1 by omega, wk_, if_neg hq15, g_hb0 h34, if_neg (by decide), e5, nI_clamp (by omega)]) _ _ hP hS ls (lv_sub hl [0, 1, 3, 4] rfl)
          · refine lv_aload_n hx hb dX0_placeBy_37 rfl (lv_at hl 3 rfl) ?_
            refine g_get hx hb hts hE hown hP g_inX0 rfl (by decide) h10 6 (by decide) rfl wf_X0_30 (v := .ref (ad_ D 17)) rfl dX0_placeBy_38 ?_
            refine lv_iload_n hx hb dX0_placeBy_41 rfl (lv_at hl 2 rfl) ?_
            refine g_callN0 (y := yX2_read) (n := 2) (As := [.ref (ad_ D 17), .int (nI p9)]) (rest := []) hx hb hml hown hts hE hZ hP hS hl.1 (m_X2_read l D hAD σ 17 95 (T 6) (nI p9) (by decide) (by decide) h17) k_X0_56 rfl rfl ⟨rfl, rfl⟩ ⟨Nat.le_of_ble_eq_true rfl, Nat.le_of_ble_eq_true rfl⟩ (Nat.le_of_ble_eq_true rfl) ⟨Nat.le_of_ble_eq_true rfl, Nat.le_of_ble_eq_true rfl⟩ dX0_placeBy_42 (fun v9 σ_10 H locs hq hP hS => ?_)
            obtain ⟨rfl, rfl⟩ := hq
            refine W.eq (g2 := F0 m 45 ls [.int (rd_ (T 6) 95 (nI p9))]) rfl ?_
            refine g_top (y := nI r9) ((rd_in (by omega) (by decide)).trans e6) ?_
            refine lv_goto (tgt := 56) hx hb dX0_placeBy_45 (by decide) ?_
            refine lv_istore_n (lv' := [(2, .int (nI r9)), (4, .int (if hb_ (x9) (T 0 p9) then 1 else 0)), (3, .int (nI k9)), (0, .ref (ad_ D 10)), (1, .int x9)]) hx hb dX0_placeBy_56 rfl hl (by decide) rfl (fun ls hl => ?_)
            refine lv_iinc (v := nI (k9 + 1)) (lv' := [(3, .int (nI (k9 + 1))), (2, .int (nI r9)), (4, .int (if hb_ (x9) (T 0 p9) then 1 else 0)), (0, .ref (ad_ D 10)), (1, .int x9)]) hx hb dX0_placeBy_57 hl (k := 2) rfl (g_inc k9) (by decide) rfl (fun ls hl => ?_)
            refine lv_goto (tgt := 4) hx hb dX0_placeBy_60 (by decide) ?_
            exact ih4 (k9 + 1) r9 (by omega) (by omega) (by omega) (by rw [← hI, show 16 - k9 = (16 - (k9 + 1)) + 1 by omega, wk_, if_neg hq15, g_hb1 h34, if_pos rfl, e6, nI_clamp (by omega)]) _ _ hP hS ls (lv_sub hl [0, 1, 3, 4] rfl)
  exact K4 ((16 - 0) + 1) 0 0 (Nat.lt_succ_self _) (Nat.zero_le _) h0z rfl _ _ hP hS ls (lv_sub hl [0, 1, 2, 3] rfl)

abbrev m_X0_tellWalk_rm : Room := { frames := 11, cells := 0, slots := 0, locals := 266 }
set_option maxHeartbeats 4000000 in
set_option maxRecDepth 100000 in
theorem m_X0_tellWalk (l : Launch) (D : va_G) (hAD : g_AD D) (σ : Nat → va_E) (sz : Nat) (T : Nat → Nat → Int32) (hG : g_S D σ sz T) (x9 : Int32) (w9 : Nat) (h0z : 0 < sz) (hch : ch_ sz T) (hw : w9 ≤ 2) : g_M l D yX0_tellWalk cX0_tellWalk 4 (some .int) m_X0_tellWalk_rm [.ref (ad_ D 10), .int x9, .int (nI w9)] σ (fun v1 σ1 => v1 = some (.int (tw_ T x9 w9)) ∧ σ = σ1) := by
  refine g_ofW [(0, .ref (ad_ D 10)), (1, .int x9), (2, .int (nI w9))] (by decide +kernel) (Nat.le_of_ble_eq_true rfl) rfl ?_
  intro p e s m args below meth c hx hb hr hml hown hlocks hts hE hZ hP hS hnm ls hl
  have hown : s.vm.findClass RX0 = some m.cls := hown
  generalize hQ : MQ _ _ _ _ _ _ _ = Q
  obtain ⟨h10, h11, h12, h13, h14, h15, h16, h17, h18, h19, hsz⟩ := id hG
  have hwk := wk_lt (x := x9) hsz hch 16 0 h0z
  refine lv_aload_n hx hb dX0_tellWalk_0 rfl (lv_at hl 0 rfl) ?_
  refine lv_iload_n hx hb dX0_tellWalk_1 rfl (lv_at hl 1 rfl) ?_
  refine g_callV0 (y := yX0_placeBy) (n := 1) (As := [.int x9]) (rest := []) hx hb hml hown hts hE hZ hP hS hl.1 (m_X0_placeBy l D hAD σ sz T hG (x9) h0z hch) k_X0_60 (ci := 0) (by decide) hG.1 rfl rfl rfl rfl rfl ⟨rfl, rfl⟩ ⟨Nat.le_of_ble_eq_true rfl, Nat.le_of_ble_eq_true rfl⟩ (Nat.le_of_ble_eq_true rfl) ⟨Nat.le_of_ble_eq_true rfl, Nat.le_of_ble_eq_true rfl⟩ dX0_tellWalk_2 (fun v1 σ_2 H locs hq hP hS => ?_)
  obtain ⟨rfl, rfl⟩ := hq
  refine W.eq (g2 := F0 m 5 ls [.int (nI (wk_ T (x9) 16 0))]) rfl ?_
  refine lv_istore_n (lv' := [(3, .int (nI (wk_ T (x9) 16 0))), (0, .ref (ad_ D 10)), (1, .int x9), (2, .int (nI w9))]) hx hb dX0_tellWalk_5 rfl hl (by decide) rfl (fun ls hl => ?_)
  refine lv_iload_n hx hb dX0_tellWalk_6 rfl (lv_at hl 3 rfl) ?_
  rcases (show w9 = 0 ∨ w9 = 1 ∨ w9 = 2 by omega) with rfl | rfl | rfl
  · refine lv_lookup (x := nI 0) (off := 25) (tgt := 32) hx hb dX0_tellWalk_7 (by decide) (by decide) (by decide) ?_
    refine lv_aload_n hx hb dX0_tellWalk_32 rfl (lv_at hl 1 rfl) ?_
    refine g_get hx hb hts hE hown hP g_inX0 rfl (by decide) h10 7 (by decide) rfl wf_X0_33 (v := .ref (ad_ D 18)) rfl dX0_tellWalk_33 ?_
    refine lv_iload_n hx hb dX0_tellWalk_36 rfl (lv_at hl 0 rfl) ?_
    refine g_callN0 (y := yX2_read) (n := 2) (As := [.ref (ad_ D 18), .int (nI (wk_ T (x9) 16 0))]) (rest := []) hx hb hml hown hts hE hZ hP hS hl.1 (m_X2_read l D hAD σ 18 95 (T 7) (nI (wk_ T (x9) 16 0)) (by decide) (by decide) h18) k_X0_56 rfl rfl ⟨rfl, rfl⟩ ⟨Nat.le_of_ble_eq_true rfl, Nat.le_of_ble_eq_true rfl⟩ (Nat.le_of_ble_eq_true rfl) ⟨Nat.le_of_ble_eq_true rfl, Nat.le_of_ble_eq_true rfl⟩ dX0_tellWalk_37 (fun v3 σ_4 H locs hq hP hS => ?_)
    obtain ⟨rfl, rfl⟩ := hq
    refine W.eq (g2 := F0 m 40 ls [.int (rd_ (T 7) 95 (nI (wk_ T (x9) 16 0)))]) rfl ?_
    refine g_top (y := T 7 (wk_ T x9 16 0)) (rd_in (by omega) (by decide)) ?_
    rw [← hQ]
    exact W.iret (v := T 7 (wk_ T x9 16 0)) hx hb hr (fun t ht _ => g_fin (⟨rfl, rfl⟩) hP hS ht) hS.2.2 dX0_tellWalk_40 hlocks
  · refine lv_lookup (x := nI 1) (off := 34) (tgt := 41) hx hb dX0_tellWalk_7 (by decide) (by decide) (by decide) ?_
    refine lv_aload_n hx hb dX0_tellWalk_41 rfl (lv_at hl 1 rfl) ?_
    refine g_get hx hb hts hE hown hP g_inX0 rfl (by decide) h10 3 (by decide) rfl wf_X0_21 (v := .ref (ad_ D 14)) rfl dX0_tellWalk_42 ?_
    refine lv_iload_n hx hb dX0_tellWalk_45 rfl (lv_at hl 0 rfl) ?_
    refine g_callN0 (y := yX2_read) (n := 2) (As := [.ref (ad_ D 14), .int (nI (wk_ T (x9) 16 0))]) (rest := []) hx hb hml hown hts hE hZ hP hS hl.1 (m_X2_read l D hAD σ 14 95 (T 3) (nI (wk_ T (x9) 16 0)) (by decide) (by decide) h14) k_X0_56 rfl rfl ⟨rfl, rfl⟩ ⟨Nat.le_of_ble_eq_true rfl, Nat.le_of_ble_eq_true rfl⟩ (Nat.le_of_ble_eq_true rfl) ⟨Nat.le_of_ble_eq_true rfl, Nat.le_of_ble_eq_true rfl⟩ dX0_tellWalk_46 (fun v5 σ_6 H locs hq hP hS => ?_)
    obtain ⟨rfl, rfl⟩ := hq
    refine W.eq (g2 := F0 m 49 ls [.int (rd_ (T 3) 95 (nI (wk_ T (x9) 16 0)))]) rfl ?_
    refine g_top (y := T 3 (wk_ T x9 16 0)) (rd_in (by omega) (by decide)) ?_
    rw [← hQ]
    exact W.iret (v := T 3 (wk_ T x9 16 0)) hx hb hr (fun t ht _ => g_fin (⟨rfl, rfl⟩) hP hS ht) hS.2.2 dX0_tellWalk_49 hlocks
  · refine lv_lookup (x := nI 2) (off := 43) (tgt := 50) hx hb dX0_tellWalk_7 (by decide) (by decide) (by decide) ?_
    refine lv_aload_n hx hb dX0_tellWalk_50 rfl (lv_at hl 1 rfl) ?_
    refine g_get hx hb hts hE hown hP g_inX0 rfl (by decide) h10 3 (by decide) rfl wf_X0_21 (v := .ref (ad_ D 14)) rfl dX0_tellWalk_51 ?_
    refine lv_iload_n hx hb dX0_tellWalk_54 rfl (lv_at hl 0 rfl) ?_
    refine g_callN0 (y := yX2_read) (n := 2) (As := [.ref (ad_ D 14), .int (nI (wk_ T (x9) 16 0))]) (rest := []) hx hb hml hown hts hE hZ hP hS hl.1 (m_X2_read l D hAD σ 14 95 (T 3) (nI (wk_ T (x9) 16 0)) (by decide) (by decide) h14) k_X0_56 rfl rfl ⟨rfl, rfl⟩ ⟨Nat.le_of_ble_eq_true rfl, Nat.le_of_ble_eq_true rfl⟩ (Nat.le_of_ble_eq_true rfl) ⟨Nat.le_of_ble_eq_true rfl, Nat.le_of_ble_eq_true rfl⟩ dX0_tellWalk_55 (fun v7 σ_8 H locs hq hP hS => ?_)
    obtain ⟨rfl, rfl⟩ := hq
    refine W.eq (g2 := F0 m 58 ls [.int (rd_ (T 3) 95 (nI (wk_ T (x9) 16 0)))]) rfl ?_
    refine g_top (y := T 3 (wk_ T x9 16 0)) (rd_in (by omega) (by decide)) ?_
    refine lv_iload_n hx hb dX0_tellWalk_58 rfl (lv_at hl 2 rfl) ?_
    refine g_callN0 (y := yX2_firstUnlikeBit) (n := 2) (As := [.int (T 3 (wk_ T x9 16 0)), .int x9]) (rest := []) hx hb hml hown hts hE hZ hP hS hl.1 (m_X2_firstUnlikeBit l D hAD σ (T 3 (wk_ T x9 16 0)) (x9)) k_X0_64 rfl rfl ⟨rfl, rfl⟩ ⟨Nat.le_of_ble_eq_true rfl, Nat.le_of_ble_eq_true rfl⟩ (Nat.le_of_ble_eq_true rfl) ⟨Nat.le_of_ble_eq_true rfl, Nat.le_of_ble_eq_true rfl⟩ dX0_tellWalk_59 (fun v9 σ_10 H locs hq hP hS => ?_)
    obtain ⟨rfl, rfl⟩ := hq
    refine W.eq (g2 := F0 m 62 ls [.int (fub_ (T 3 (wk_ T x9 16 0)) (x9))]) rfl ?_
    rw [← hQ]
    exact W.iret (v := fub_ (T 3 (wk_ T x9 16 0)) (x9)) hx hb hr (fun t ht _ => g_fin (⟨rfl, rfl⟩) hP hS ht) hS.2.2 dX0_tellWalk_62 hlocks
end
section
/-! PURE: bits of names -/
theorem b_xor (a b : Nat) : nI a ^^^ nI b = nI (a ^^^ b) := by
  apply Int32.toBitVec_inj.mp
  show (nI a).toBitVec ^^^ (nI b).toBitVec = (nI (a ^^^ b)).toBitVec
  apply BitVec.eq_of_toNat_eq
  simp [nI, BitVec.toNat_xor, Nat.xor_mod_two_pow]
theorem b_sh : ∀ k, k < 32 → ((nI k &&& 31).toBitVec.smod 32).toNat = k := by decide +kernel
theorem b_shr {u k : Nat} (hu : u < 2 ^ 31) (hk : k < 32) : nI u >>> (nI k &&& 31) = nI (u / 2 ^ k) := pk_shrN hu _ k (b_sh k hk)
theorem b_hb {a k : Nat} (ha : a < 2 ^ 31) (hk : k < 32) : hb_ (nI a) (nI k) = a.testBit k := by
  unfold hb_
  rw [b_shr ha hk, show (1 : Int32) = nI 1 from rfl]
  have h1 : a / 2 ^ k < 2 ^ 32 := Nat.lt_of_le_of_lt (Nat.div_le_self _ _) (by omega)
  rw [pk_andN (m := nI 1) h1 1 (by decide)]
  rw [Nat.testBit_eq_decide_div_mod_eq]
  have h2 : a / 2 ^ k % 2 ^ 1 < 2 ^ 31 := by have := Nat.mod_lt (a / 2 ^ k) (show 0 < 2 ^ 1 by decide); omega
  rw [decide_eq_decide, nI_eq h2 (by decide)]
theorem fs_step {u b h : Nat} (hu : u < 65536) (h0 : 0 < h) (hb : b + h < 32) (h1 : b = 0 ∨ 2 ^ b ≤ u) (h2 : u < 2 ^ (b + 2 * h)) : (fs_ (nI u) b h = 0 ∨ 2 ^ fs_ (nI u) b h ≤ u) ∧ u < 2 ^ (fs_ (nI u) b h + h) := by
  unfold fs_
  rw [b_shr (by omega) hb]
  have hd : u / 2 ^ (b + h) < 2 ^ 31 := Nat.lt_of_le_of_lt (Nat.div_le_self _ _) (by omega)
  have hp : 0 < 2 ^ (b + h) := Nat.two_pow_pos _
  split
  · next hz =>
    have hz2 : u / 2 ^ (b + h) = 0 := g_eq (b := 0) hz hd (by decide)
    refine ⟨h1, ?_⟩
    rcases Nat.lt_or_ge u (2 ^ (b + h)) with q | q
    · exact q
    · have := Nat.div_pos q hp; omega
  · next hz =>
    have hz2 : u / 2 ^ (b + h) ≠ 0 := fun e => hz (by rw [e]; rfl)
    refine ⟨Or.inr ?_, by rw [show b + h + h = b + 2 * h by omega]; exact h2⟩
    rcases Nat.lt_or_ge u (2 ^ (b + h)) with q | q
    · exact absurd (Nat.div_eq_of_lt q) hz2
    · exact q
theorem fo_log {u : Nat} (h0 : 0 < u) (hu : u < 65536) : 2 ^ fo_ (nI u) 0 8 ≤ u ∧ u < 2 ^ (fo_ (nI u) 0 8 + 1) ∧ fo_ (nI u) 0 8 < 16 := by
  rw [fo_s _ _ _ (by decide), fo_s _ _ _ (by decide), fo_s _ _ _ (by decide), fo_s _ _ _ (by decide), show 8 / 2 / 2 / 2 / 2 = 0 from rfl, fo_0]
  have a1 := fs_step (b := 0) (h := 8) hu (by decide) (by decide) (Or.inl rfl) (by omega)
  have l1 := fs_le (nI u) 0 8
  generalize fs_ (nI u) 0 8 = x1 at a1 l1 ⊢
  have a2 := fs_step (b := x1) (h := 4) hu (by decide) (by omega) a1.1 a1.2
  have l2 := fs_le (nI u) x1 4
  rw [show 8 / 2 = 4 from rfl]
  generalize fs_ (nI u) x1 4 = x2 at a2 l2 ⊢
  have a3 := fs_step (b := x2) (h := 2) hu (by decide) (by omega) a2.1 a2.2
  have l3 := fs_le (nI u) x2 2
  rw [show 4 / 2 = 2 from rfl]
  generalize fs_ (nI u) x2 2 = x3 at a3 l3 ⊢
  have a4 := fs_step (b := x3) (h := 1) hu (by decide) (by omega) a3.1 a3.2
  have l4 := fs_le (nI u) x3 1
  rw [show 2 / 2 = 1 from rfl]
  generalize fs_ (nI u) x3 1 = x4 at a4 l4 ⊢
  refine ⟨?_, a4.2, by omega⟩
  rcases a4.1 with e | e
  · subst e; exact h0
  · exact e
/-- the highest unlike bit: the smaller name hasn't it, the greater one has it, above it both are alike -/
theorem b_top {a b k : Nat} (hlt : a < b) (h1 : 2 ^ k ≤ a ^^^ b) (h2 : a ^^^ b < 2 ^ (k + 1)) : a.testBit k = false ∧ b.testBit k = true ∧ ∀ i, k < i → a.testBit i = b.testBit i := by
  have hab : ∀ i, k < i → a.testBit i = b.testBit i := by
    intro i hi
    have hz : (a ^^^ b).testBit i = false := Nat.testBit_lt_two_pow (Nat.lt_of_lt_of_le h2 (Nat.pow_le_pow_right (by decide) hi))
    rw [Nat.testBit_xor] at hz
    cases ha : a.testBit i <;> cases hb : b.testBit i <;> simp [ha, hb] at hz ⊢
  have hk : (a ^^^ b).testBit k = true := by
    rw [Nat.testBit_eq_decide_div_mod_eq, decide_eq_true_eq]
    have q1 : 1 ≤ (a ^^^ b) / 2 ^ k := (Nat.le_div_iff_mul_le (Nat.two_pow_pos k)).mpr (by omega)
    have q2 : (a ^^^ b) / 2 ^ k < 2 := (Nat.div_lt_iff_lt_mul (Nat.two_pow_pos k)).mpr (by rw [Nat.pow_succ] at h2; omega)
    omega
  rw [Nat.testBit_xor] at hk
  cases ha : a.testBit k <;> cases hb : b.testBit k <;> simp [ha, hb] at hk
  · exact ⟨rfl, rfl, hab⟩
  · have hq : a / 2 ^ (k + 1) = b / 2 ^ (k + 1) := by
      apply Nat.eq_of_testBit_eq
      intro i
      rw [Nat.testBit_div_two_pow, Nat.testBit_div_two_pow]
      exact hab _ (by omega)
    rw [Nat.testBit_eq_decide_div_mod_eq, decide_eq_true_eq] at ha
    rw [Nat.testBit_eq_decide_div_mod_eq, decide_eq_false_iff_not] at hb
    have ea : a / 2 ^ (k + 1) = a / 2 ^ k / 2 := by rw [Nat.pow_succ, Nat.div_div_eq_div_mul]
    have eb : b / 2 ^ (k + 1) = b / 2 ^ k / 2 := by rw [Nat.pow_succ, Nat.div_div_eq_div_mul]
    have hle : a / 2 ^ k ≤ b / 2 ^ k := Nat.div_le_div_right (by omega)
    omega
/-- a valid wood: names get greater, 0 to 65535; miles 0 to 999 -/
def vL_ (L : g_L) : Prop := (∀ j, j + 1 < L.length → fn_ L j < fn_ L (j + 1)) ∧ (∀ j, j < L.length → 0 ≤ fn_ L j ∧ fn_ L j ≤ 65535) ∧ ∀ j, j < L.length → 0 ≤ gn_ L j ∧ gn_ L j ≤ 999
theorem i32_nat {x : Int32} {n : Nat} (h0 : 0 ≤ x) (hn : x ≤ nI n) (h : n < 2 ^ 31) : ∃ a : Nat, a ≤ n ∧ x = nI a := by
  obtain ⟨a, ha, rfl⟩ := nI_of (Int32.not_lt.mpr h0)
  exact ⟨a, (nI_leI ha h).mp hn, rfl⟩
theorem vL_nat {L : g_L} (h : vL_ L) {j : Nat} (hj : j < L.length) : ∃ a : Nat, a ≤ 65535 ∧ fn_ L j = nI a := i32_nat (h.2.1 j hj).1 (h.2.1 j hj).2 (by decide)
theorem vL_lt {L : g_L} (h : vL_ L) : ∀ (d i : Nat), i + d + 1 < L.length → fn_ L i < fn_ L (i + d + 1)
  | 0, i, hi => h.1 i hi
  | d + 1, i, hi => Int32.lt_trans (vL_lt h d i (by omega)) (h.1 (i + d + 1) hi)
theorem vL_mono {L : g_L} (h : vL_ L) {i j : Nat} (hij : i < j) (hj : j < L.length) : fn_ L i < fn_ L j := by
  obtain ⟨d, rfl⟩ : ∃ d, j = i + d + 1 := ⟨j - i - 1, by omega⟩
  exact vL_lt h d i hj
/-- the first unlike bit of two names -/
theorem fub_bit {a b : Nat} (hlt : a < b) (hb : b ≤ 65535) : ∃ k, k < 16 ∧ fub_ (nI a) (nI b) = nI k ∧ 2 ^ k ≤ a ^^^ b ∧ a ^^^ b < 2 ^ (k + 1) := by
  have hu : a ^^^ b < 65536 := Nat.xor_lt_two_pow (n := 16) (by omega) (by omega)
  have h0 : 0 < a ^^^ b := by
    rcases Nat.eq_zero_or_pos (a ^^^ b) with q | q
    · have e : a = b := by
        have := congrArg (fun z => z ^^^ b) q
        simpa [Nat.xor_assoc] using this
      omega
    · exact q
  obtain ⟨l1, l2, l3⟩ := fo_log h0 hu
  refine ⟨fo_ (nI (a ^^^ b)) 0 8, l3, ?_, l1, l2⟩
  unfold fub_
  rw [b_xor, if_neg]
  intro e
  have := g_eq (b := 0) e (by omega) (by decide)
  omega
theorem gs_of {L : g_L} (h : vL_ L) : gs_ (fn_ L) L.length := by
  intro a c hc hac
  obtain ⟨x, hx, ex⟩ := vL_nat h (show a < L.length by omega)
  obtain ⟨y, hy, ey⟩ := vL_nat h (show a + c - 1 < L.length by omega)
  have hlt : x < y := by
    have := vL_mono h (show a < a + c - 1 by omega) (by omega)
    rw [ex, ey] at this
    exact g_lt this (by omega) (by omega)
  obtain ⟨k, hk, e, k1, k2⟩ := fub_bit hlt hy
  obtain ⟨t1, t2, -⟩ := b_top hlt k1 k2
  have z1 : hb_ (fn_ L a) (fub_ (fn_ L a) (fn_ L (a + c - 1))) = false := by rw [ex, ey, e, b_hb (by omega) (by omega)]; exact t1
  have z2 : hb_ (fn_ L (a + c - 1)) (fub_ (fn_ L a) (fn_ L (a + c - 1))) = true := by rw [ey, ex, e, b_hb (by omega) (by omega)]; exact t2
  unfold ms_
  generalize fub_ (fn_ L a) (fn_ L (a + c - 1)) = B at z1 z2 ⊢
  constructor
  · obtain ⟨d, rfl⟩ : ∃ d, c = d + 1 := ⟨c - 1, by omega⟩
    rw [sp_, z1]
    simp
  · rcases Nat.lt_or_ge (sp_ (fn_ L) B a c) c with q | q
    · exact q
    · have := sp_no (fn_ L) B c a (c - 1) (by omega)
      rw [show a + (c - 1) = a + c - 1 by omega, z2] at this
      cases this
end
section
/-! the mean path is a number -/
theorem fl_1 : ∀ s, s < 1 → FP.ddiv (FP.i2d (nI s)) (FP.i2d (nI 1)) &&& 0x7fffffffffffffff ≤ 0x7ff0000000000000 := by decide +kernel
theorem fl_2 : ∀ s, s < 4 → FP.ddiv (FP.i2d (nI s)) (FP.i2d (nI 2)) &&& 0x7fffffffffffffff ≤ 0x7ff0000000000000 := by decide +kernel
theorem fl_3 : ∀ s, s < 11 → FP.ddiv (FP.i2d (nI s)) (FP.i2d (nI 3)) &&& 0x7fffffffffffffff ≤ 0x7ff0000000000000 := by decide +kernel
theorem fl_4 : ∀ s, s < 22 → FP.ddiv (FP.i2d (nI s)) (FP.i2d (nI 4)) &&& 0x7fffffffffffffff ≤ 0x7ff0000000000000 := by decide +kernel
theorem fl_5 : ∀ s, s < 37 → FP.ddiv (FP.i2d (nI s)) (FP.i2d (nI 5)) &&& 0x7fffffffffffffff ≤ 0x7ff0000000000000 := by decide +kernel
theorem fl_6 : ∀ s, s < 56 → FP.ddiv (FP.i2d (nI s)) (FP.i2d (nI 6)) &&& 0x7fffffffffffffff ≤ 0x7ff0000000000000 := by decide +kernel
theorem fl_7 : ∀ s, s < 79 → FP.ddiv (FP.i2d (nI s)) (FP.i2d (nI 7)) &&& 0x7fffffffffffffff ≤ 0x7ff0000000000000 := by decide +kernel
theorem fl_8 : ∀ s, s < 106 → FP.ddiv (FP.i2d (nI s)) (FP.i2d (nI 8)) &&& 0x7fffffffffffffff ≤ 0x7ff0000000000000 := by decide +kernel
theorem fl_9 : ∀ s, s < 137 → FP.ddiv (FP.i2d (nI s)) (FP.i2d (nI 9)) &&& 0x7fffffffffffffff ≤ 0x7ff0000000000000 := by decide +kernel
theorem fl_10 : ∀ s, s < 172 → FP.ddiv (FP.i2d (nI s)) (FP.i2d (nI 10)) &&& 0x7fffffffffffffff ≤ 0x7ff0000000000000 := by decide +kernel
theorem fl_11 : ∀ s, s < 211 → FP.ddiv (FP.i2d (nI s)) (FP.i2d (nI 11)) &&& 0x7fffffffffffffff ≤ 0x7ff0000000000000 := by decide +kernel
theorem fl_12 : ∀ s, s < 254 → FP.ddiv (FP.i2d (nI s)) (FP.i2d (nI 12)) &&& 0x7fffffffffffffff ≤ 0x7ff0000000000000 := by decide +kernel
theorem fl_13 : ∀ s, s < 301 → FP.ddiv (FP.i2d (nI s)) (FP.i2d (nI 13)) &&& 0x7fffffffffffffff ≤ 0x7ff0000000000000 := by decide +kernel
theorem fl_14 : ∀ s, s < 352 → FP.ddiv (FP.i2d (nI s)) (FP.i2d (nI 14)) &&& 0x7fffffffffffffff ≤ 0x7ff0000000000000 := by decide +kernel
theorem fl_15 : ∀ s, s < 407 → FP.ddiv (FP.i2d (nI s)) (FP.i2d (nI 15)) &&& 0x7fffffffffffffff ≤ 0x7ff0000000000000 := by decide +kernel
theorem fl_16 : ∀ s, s < 466 → FP.ddiv (FP.i2d (nI s)) (FP.i2d (nI 16)) &&& 0x7fffffffffffffff ≤ 0x7ff0000000000000 := by decide +kernel
theorem fl_17 : ∀ s, s < 529 → FP.ddiv (FP.i2d (nI s)) (FP.i2d (nI 17)) &&& 0x7fffffffffffffff ≤ 0x7ff0000000000000 := by decide +kernel
theorem fl_18 : ∀ s, s < 596 → FP.ddiv (FP.i2d (nI s)) (FP.i2d (nI 18)) &&& 0x7fffffffffffffff ≤ 0x7ff0000000000000 := by decide +kernel
theorem fl_19 : ∀ s, s < 667 → FP.ddiv (FP.i2d (nI s)) (FP.i2d (nI 19)) &&& 0x7fffffffffffffff ≤ 0x7ff0000000000000 := by decide +kernel
theorem fl_20 : ∀ s, s < 742 → FP.ddiv (FP.i2d (nI s)) (FP.i2d (nI 20)) &&& 0x7fffffffffffffff ≤ 0x7ff0000000000000 := by decide +kernel
theorem fl_21 : ∀ s, s < 821 → FP.ddiv (FP.i2d (nI s)) (FP.i2d (nI 21)) &&& 0x7fffffffffffffff ≤ 0x7ff0000000000000 := by decide +kernel
theorem fl_22 : ∀ s, s < 904 → FP.ddiv (FP.i2d (nI s)) (FP.i2d (nI 22)) &&& 0x7fffffffffffffff ≤ 0x7ff0000000000000 := by decide +kernel
theorem fl_23 : ∀ s, s < 991 → FP.ddiv (FP.i2d (nI s)) (FP.i2d (nI 23)) &&& 0x7fffffffffffffff ≤ 0x7ff0000000000000 := by decide +kernel
theorem fl_24 : ∀ s, s < 1082 → FP.ddiv (FP.i2d (nI s)) (FP.i2d (nI 24)) &&& 0x7fffffffffffffff ≤ 0x7ff0000000000000 := by decide +kernel
theorem fl_dec {n s : Nat} (h0 : 1 ≤ n) (hn : n ≤ 24) (hs : s < (2 * n - 1) * (n - 1) + 1) : vf_n64 (FP.ddiv (FP.i2d (nI s)) (FP.i2d (nI n))) := by
  unfold vf_n64
  rcases (show n = 1 ∨ n = 2 ∨ n = 3 ∨ n = 4 ∨ n = 5 ∨ n = 6 ∨ n = 7 ∨ n = 8 ∨ n = 9 ∨ n = 10 ∨ n = 11 ∨ n = 12 ∨ n = 13 ∨ n = 14 ∨ n = 15 ∨ n = 16 ∨ n = 17 ∨ n = 18 ∨ n = 19 ∨ n = 20 ∨ n = 21 ∨ n = 22 ∨ n = 23 ∨ n = 24 by omega) with rfl | rfl | rfl | rfl | rfl | rfl | rfl | rfl | rfl | rfl | rfl | rfl | rfl | rfl | rfl | rfl | rfl | rfl | rfl | rfl | rfl | rfl | rfl | rfl
  · exact fl_1 s hs
  · exact fl_2 s hs
  · exact fl_3 s hs
  · exact fl_4 s hs
  · exact fl_5 s hs
  · exact fl_6 s hs
  · exact fl_7 s hs
  · exact fl_8 s hs
  · exact fl_9 s hs
  · exact fl_10 s hs
  · exact fl_11 s hs
  · exact fl_12 s hs
  · exact fl_13 s hs
  · exact fl_14 s hs
  · exact fl_15 s hs
  · exact fl_16 s hs
  · exact fl_17 s hs
  · exact fl_18 s hs
  · exact fl_19 s hs
  · exact fl_20 s hs
  · exact fl_21 s hs
  · exact fl_22 s hs
  · exact fl_23 s hs
  · exact fl_24 s hs
end
section
/-! PURE: what FingerPosts answers -/
abbrev ix_ (i g : Int32) : Prop := ¬ i < 0 ∧ ¬ g < i
theorem ix_nat {i : Int32} {g : Nat} (h : ix_ i (nI g)) (hg : g < 2 ^ 31) : ∃ w : Nat, w ≤ g ∧ i = nI w := by
  obtain ⟨w, hw, rfl⟩ := nI_of h.1
  exact ⟨w, Nat.not_lt.mp (mt (fun q => nI_lt q hw) h.2), rfl⟩
theorem ix_of {w g : Nat} (h : w ≤ g) (hg : g < 2 ^ 31) : ix_ (nI w) (nI g) := ⟨nI_pos (by omega), nI_nlt h hg⟩
theorem ne_m1 {x : Int32} (h : 0 ≤ x) : x ≠ -1 := by
  intro e; rw [e] at h; exact absurd h (by decide)
theorem vL_ne {L : g_L} (h : vL_ L) : ∀ j, j < L.length → fn_ L j ≠ -1 := fun j hj => ne_m1 (h.2.1 j hj).1
theorem i32_lt_of {x y : Int32} (h1 : ¬ x < y) (h2 : ¬ x = y) : y < x := by
  rw [Int32.lt_iff_toInt_lt] at h1 ⊢
  have : x.toInt ≠ y.toInt := fun e => h2 (Int32.toInt_inj.mp e)
  omega
theorem vL_st {L : g_L} {x y : Int32} (h : vL_ L) (hx0 : 0 ≤ x) (hx1 : x ≤ 65535) (hy0 : 0 ≤ y) (hy1 : y ≤ 999) : vL_ (st_ L x y) := by
  have hk := rk_le L x
  by_cases hf : fn_ L (rk_ L x) = x
  · have hlt := fn_in hf (ne_m1 hx0)
    have e1 : ∀ j, fn_ (st_ L x y) j = fn_ L j := by
      intro j; unfold st_; rw [if_pos hf, fn_set hlt]; split
      · next e => rw [e]; exact hf.symm
      · rfl
    have e2 : ∀ j, gn_ (st_ L x y) j = if j = rk_ L x then y else gn_ L j := by
      intro j; unfold st_; rw [if_pos hf, gn_set hlt]
    have el : (st_ L x y).length = L.length := by rw [st_len, if_pos hf]
    unfold vL_
    simp only [e1, e2, el]
    refine ⟨h.1, h.2.1, fun j hj => ?_⟩
    split
    · exact ⟨hy0, hy1⟩
    · exact h.2.2 j hj
  · have e1 : ∀ j, fn_ (st_ L x y) j = if j < rk_ L x then fn_ L j else if j = rk_ L x then x else fn_ L (j - 1) := by
      intro j; unfold st_; rw [if_neg hf, fn_ins hk]
    have e2 : ∀ j, gn_ (st_ L x y) j = if j < rk_ L x then gn_ L j else if j = rk_ L x then y else gn_ L (j - 1) := by
      intro j; unfold st_; rw [if_neg hf, gn_ins hk]
    have el : (st_ L x y).length = L.length + 1 := by rw [st_len, if_neg hf]
    unfold vL_
    simp only [e1, e2, el]
    refine ⟨fun j hj => ?_, fun j hj => ?_, fun j hj => ?_⟩
    · by_cases c1 : j + 1 < rk_ L x
      · rw [if_pos (by omega), if_pos c1]; exact h.1 j (by omega)
      · by_cases c2 : j + 1 = rk_ L x
        · rw [if_pos (by omega), if_neg c1, if_pos c2]; exact rk_lt L x j (by omega)
        · by_cases c3 : j = rk_ L x
          · rw [if_neg (by omega), if_pos c3, if_neg c1, if_neg c2, show j + 1 - 1 = rk_ L x by omega]
            exact i32_lt_of (rk_at L x (by omega)) hf
          · rw [if_neg (by omega), if_neg c3, if_neg c1, if_neg c2]
            have := h.1 (j - 1) (by omega)
            rw [show j - 1 + 1 = j + 1 - 1 by omega] at this
            exact this
    · split
      · exact h.2.1 j (by omega)
      · split
        · exact ⟨hx0, hx1⟩
        · exact h.2.1 (j - 1) (by omega)
    · split
      · exact h.2.2 j (by omega)
      · split
        · exact ⟨hy0, hy1⟩
        · exact h.2.2 (j - 1) (by omega)
theorem vL_nil : vL_ [] := ⟨fun j h => absurd h (by simp), fun j h => absurd h (by simp), fun j h => absurd h (by simp)⟩
theorem vL_sa {L M : g_L} (h : vL_ L) (hM : vL_ M) : ∀ k, k ≤ M.length → vL_ (sa_ L M k)
  | 0, _ => h
  | k + 1, hk => vL_st (vL_sa h hM k (by omega)) (hM.2.1 k (by omega)).1 (hM.2.1 k (by omega)).2 (hM.2.2 k (by omega)).1 (hM.2.2 k (by omega)).2
def bo_ (A B : g_L) : g_L := sa_ (sa_ [] A A.length) B B.length
theorem vL_bo {A B : g_L} (ha : vL_ A) (hb : vL_ B) : vL_ (bo_ A B) := vL_sa (vL_sa vL_nil ha _ (Nat.le_refl _)) hb _ (Nat.le_refl _)
theorem bo_len {A B : g_L} : (bo_ A B).length ≤ A.length + B.length := by
  have h1 := sa_len [] A A.length
  have h2 := sa_len (sa_ [] A A.length) B B.length
  unfold bo_
  simp only [List.length_nil] at h1
  omega
theorem xor_ok {x b : Int32} (h0 : 0 ≤ x) (h1 : x ≤ 65535) (g0 : 0 ≤ b) (g1 : b ≤ 65535) : 0 ≤ x ^^^ b ∧ x ^^^ b ≤ 65535 := by
  obtain ⟨a, ha, rfl⟩ := i32_nat (n := 65535) h0 h1 (by decide)
  obtain ⟨c, hc, rfl⟩ := i32_nat (n := 65535) g0 g1 (by decide)
  rw [b_xor]
  have hu : a ^^^ c < 65536 := Nat.xor_lt_two_pow (n := 16) (by omega) (by omega)
  exact ⟨nI_pos' (by omega), nI_le (b := 65535) (by omega) (by decide)⟩
theorem vL_cb {L : g_L} {b : Int32} (h : vL_ L) (g0 : 0 ≤ b) (g1 : b ≤ 65535) : ∀ k, k ≤ L.length → vL_ (cb_ L b k)
  | 0, _ => vL_nil
  | k + 1, hk => vL_st (vL_cb h g0 g1 k (by omega)) (xor_ok (h.2.1 k (by omega)).1 (h.2.1 k (by omega)).2 g0 g1).1 (xor_ok (h.2.1 k (by omega)).1 (h.2.1 k (by omega)).2 g0 g1).2 (h.2.2 k (by omega)).1 (h.2.2 k (by omega)).2
/-- the table of signs of a wood -/
def tb_ (L : g_L) (j q : Nat) : Int32 := tv_ (fn_ L) ((tN_ (fn_ L) L.length).getD q (0, 0, 0, 0)) q j
theorem tB_eq {L : g_L} {T : Nat → Nat → Int32} (hv : vL_ L) (h : tB_ (fn_ L) L.length T) : ∀ q, q < zs_ L.length → ∀ j, j < 9 → T j q = tb_ L j q := by
  intro q hq j hj
  rw [← tN_len (gs_of hv)] at hq
  have e := List.getElem?_eq_getElem hq
  rw [h q _ e j hj, tb_, List.getD_eq_getElem?_getD, e]
  rfl
def co_ (L : g_L) (sz : Nat) (T : Nat → Nat → Int32) (w : Nat) : Int32 := match w with
  | 0 => nI L.length
  | 1 => nI (pc_ (T 0) sz)
  | 2 => lg_ (T 7) sz
  | 3 => ap_ (T 0) (T 7) sz
  | 4 => hs_ L 0 L.length
  | 5 => pb_ (T 0) sz
  | _ => sm_ L 0 (L.length - 0)
def cn_ (L : g_L) (w : Nat) : Int32 := co_ L (zs_ L.length) (tb_ L) w
theorem pc_cg {B C : Nat → Int32} : ∀ n, (∀ q, q < n → B q = C q) → pc_ B n = pc_ C n
  | 0, _ => rfl
  | n + 1, h => by rw [pc_, pc_, pc_cg n (fun q hq => h q (by omega)), h n (by omega)]
theorem pb_cg {B C : Nat → Int32} : ∀ n, (∀ q, q < n → B q = C q) → pb_ B n = pb_ C n
  | 0, _ => rfl
  | n + 1, h => by rw [pb_, pb_, pb_cg n (fun q hq => h q (by omega)), h n (by omega)]
theorem lg_cg {B C : Nat → Int32} : ∀ n, (∀ q, q < n → B q = C q) → lg_ B n = lg_ C n
  | 0, _ => rfl
  | n + 1, h => by rw [lg_, lg_, lg_cg n (fun q hq => h q (by omega)), h n (by omega)]
theorem ap_cg {B C A E : Nat → Int32} : ∀ n, (∀ q, q < n → B q = C q) → (∀ q, q < n → A q = E q) → ap_ B A n = ap_ C E n
  | 0, _, _ => rfl
  | n + 1, h, h2 => by rw [ap_, ap_, ap_cg n (fun q hq => h q (by omega)) (fun q hq => h2 q (by omega)), h n (by omega), h2 n (by omega)]
theorem bs_cg {T U : Nat → Nat → Int32} : ∀ n, (∀ q, q < n → ∀ j, j < 9 → T j q = U j q) → bs_ T n = bs_ U n
  | 0, _ => rfl
  | n + 1, h => by
    rw [bs_, bs_, bs_cg n (fun q hq => h q (by omega)), h n (by omega) 0 (by decide), h n (by omega) 7 (by decide), h n (by omega) 8 (by decide), h n (by omega) 3 (by decide)]
theorem co_cg {L : g_L} {sz : Nat} {T U : Nat → Nat → Int32} (h : ∀ q, q < sz → ∀ j, j < 9 → T j q = U j q) (w : Nat) : co_ L sz T w = co_ L sz U w := by
  unfold co_
  rw [pc_cg sz (fun q hq => h q hq 0 (by decide)), lg_cg sz (fun q hq => h q hq 7 (by decide)), ap_cg sz (fun q hq => h q hq 0 (by decide)) (fun q hq => h q hq 7 (by decide)), pb_cg sz (fun q hq => h q hq 0 (by decide))]
theorem tel_cg {sz p : Nat} {T U : Nat → Nat → Int32} (hp : p < sz) (h : ∀ q, q < sz → ∀ j, j < 9 → T j q = U j q) (w : Nat) : tel_ T w p = tel_ U w p := by
  unfold tel_
  rw [h p hp 0 (by decide), h p hp 2 (by decide), h p hp 3 (by decide), h p hp 4 (by decide), h p hp 5 (by decide), h p hp 6 (by decide), h p hp 7 (by decide)]
theorem wk_cg {sz : Nat} {T U : Nat → Nat → Int32} {x : Int32} (hsz : sz ≤ 95) (hc : ch_ sz T) (h : ∀ q, q < sz → ∀ j, j < 9 → T j q = U j q) : ∀ (k p : Nat), p < sz → wk_ T x k p = wk_ U x k p
  | 0, _, _ => rfl
  | k + 1, p, hp => by
    rw [wk_, wk_, ← h p hp 0 (by decide), ← h p hp 5 (by decide), ← h p hp 6 (by decide)]
    split
    · rfl
    · next hn =>
      obtain ⟨l, r, e5, e6, b5, b6⟩ := hc p hp hn
      refine wk_cg hsz hc h k _ ?_
      rw [e5, e6, nI_clamp (by omega), nI_clamp (by omega)]
      split
      · exact b6
      · exact b5
theorem tw_cg {sz : Nat} {T U : Nat → Nat → Int32} {x : Int32} (h0 : 0 < sz) (hsz : sz ≤ 95) (hc : ch_ sz T) (h : ∀ q, q < sz → ∀ j, j < 9 → T j q = U j q) (w : Nat) : tw_ T x w = tw_ U x w := by
  have e := wk_cg (x := x) hsz hc h 16 0 h0
  have hl := wk_lt (x := x) hsz hc 16 0 h0
  unfold tw_
  rw [← e, h _ hl 7 (by decide), h _ hl 3 (by decide)]
theorem tv_post {f : Nat → Int32} {nd : g_Nd} {q : Nat} (h1 : 1 ≤ nd.2.1) (h : ¬ tv_ f nd q 0 = -1) : 2 ≤ nd.2.1 := by
  rcases Nat.lt_or_ge nd.2.1 2 with c | c
  · refine absurd ?_ h
    have e : nd.1 + nd.2.1 - 1 = nd.1 := by omega
    rw [tv_, e]
    unfold fub_
    rw [if_pos (by simp)]
  · exact c
/-- the sides of posts stand in the row -/
theorem tB_ch {L : g_L} {T : Nat → Nat → Int32} (hv : vL_ L) (h : tB_ (fn_ L) L.length T) : ch_ (zs_ L.length) T := by
  intro p hp hn
  have hg := gs_of hv
  rw [← tN_len hg] at hp ⊢
  have e := List.getElem?_eq_getElem hp
  generalize (tN_ (fn_ L) L.length)[p] = nd at e
  obtain ⟨n1, n2, n3, n4, n5, n6, n7⟩ := tr_node hg L.length 0 L.length 0 0 (tN_pos e) (Nat.le_refl _) (by omega) p nd e
  rw [h p nd e 0 (by decide)] at hn
  have hc := tv_post n1 hn
  obtain ⟨d1, d2⟩ := n7 hc
  refine ⟨p + 1, p + 2 * ms_ (fn_ L) nd.1 nd.2.1, ?_, ?_, ix_some d1, ix_some d2⟩
  · rw [h p nd e 5 (by decide), tv_, if_pos hc]
  · rw [h p nd e 6 (by decide), tv_, if_pos hc]
theorem zs_pos {n : Nat} (h : 0 < n) : 0 < zs_ n := by unfold zs_; rw [if_neg (by omega)]; omega
/-! the mean path -/
theorem ap_nat {f : Nat → Int32} {n : Nat} (hg : gs_ f n) {B A : Nat → Int32} (hA : ∀ q nd, (tN_ f n)[q]? = some nd → A q = nI nd.2.2.1) : ∀ k, k ≤ zs_ n → ∃ s, s ≤ k * (n - 1) ∧ ap_ B A k = nI s
  | 0, _ => ⟨0, by omega, rfl⟩
  | k + 1, hk => by
    obtain ⟨s, hs, e⟩ := ap_nat hg hA k (by omega)
    have hm : (k + 1) * (n - 1) = k * (n - 1) + (n - 1) := by rw [Nat.add_mul, Nat.one_mul]
    rw [ap_, e]
    split
    · have hlt : k < (tN_ f n).length := by rw [tN_len hg]; omega
      have en := List.getElem?_eq_getElem hlt
      generalize (tN_ f n)[k] = nd at en
      obtain ⟨n1, n2, n3, n4, n5, -⟩ := tr_node hg n 0 n 0 0 (tN_pos en) (Nat.le_refl _) (by omega) k nd en
      rw [hA k nd en, nI_add]
      exact ⟨s + nd.2.2.1, by omega, rfl⟩
    · exact ⟨s, by omega, rfl⟩
def me_ (L : g_L) : UInt64 := if L.length = 0 then FP.dconst0 else FP.ddiv (FP.i2d (ap_ (tb_ L 0) (tb_ L 7) (zs_ L.length))) (FP.i2d (nI L.length))
theorem me_num {L : g_L} {T : Nat → Nat → Int32} (hv : vL_ L) (h0 : L.length ≠ 0) (h24 : L.length ≤ 24) (h : tB_ (fn_ L) L.length T) : vf_n64 (FP.ddiv (FP.i2d (ap_ (T 0) (T 7) (zs_ L.length))) (FP.i2d (nI L.length))) := by
  obtain ⟨s, hs, e⟩ := ap_nat (gs_of hv) (B := T 0) (A := T 7) (fun q nd hq => h q nd hq 7 (by decide)) (zs_ L.length) (Nat.le_refl _)
  rw [e]
  refine fl_dec (by omega) h24 ?_
  unfold zs_ at hs
  rw [if_neg h0] at hs
  omega
/-! the other answers -/
def mgm_ (r : Nat) (a b : Int32) : Int32 := if b = -1 then a else match r with
  | 0 => a
  | 1 => b
  | 2 => if nI 999 < a + b then nI 999 else a + b
  | _ => if b < a then b else a
def mg_ (r : Nat) (S T : g_L) : Nat → g_L
  | 0 => T
  | k + 1 => st_ (mg_ r S T k) (fn_ S k) (mgm_ r (gn_ S k) (mo_ (mg_ r S T k) (fn_ S k)))
theorem mg_len (r : Nat) (S T : g_L) : ∀ k, (mg_ r S T k).length ≤ T.length + k
  | 0 => Nat.le_refl _
  | k + 1 => Nat.le_trans st_len_le (Nat.succ_le_succ (mg_len r S T k))
def ct_ (S T : g_L) (a : Nat) : Nat → g_L
  | 0 => T
  | c + 1 => st_ (ct_ S T a c) (fn_ S (a + c)) (gn_ S (a + c))
theorem ct_len (S T : g_L) (a : Nat) : ∀ k, (ct_ S T a k).length ≤ T.length + k
  | 0 => Nat.le_refl _
  | k + 1 => Nat.le_trans st_len_le (Nat.succ_le_succ (ct_len S T a k))
def ra_ (L : g_L) (lo hi : Int32) (w : Nat) : Int32 := match w with
  | 0 => nI (rk_ L (hi + nI 1)) - nI (rk_ L lo)
  | 1 => sm_ L (rk_ L lo) (rk_ L (hi + nI 1) - rk_ L lo)
  | 2 => hs_ L (rk_ L lo) (rk_ L (hi + nI 1))
  | _ => mm_ L (rk_ L lo) (rk_ L (hi + nI 1) - rk_ L lo)
def dg_ (d : Int64) (x : Int32) : Int64 := d * 31 + x.toInt64
def dc_ (L : g_L) (d : Int64) : Nat → Int64
  | 0 => d
  | k + 1 => dg_ (dc_ L d k) (cn_ L k)
def d1_ (L : g_L) (p : Nat) (d : Int64) : Nat → Int64
  | 0 => d
  | w + 1 => dg_ (d1_ L p d w) (tel_ (tb_ L) w p)
def ds_ (L : g_L) (d : Int64) : Nat → Int64
  | 0 => d
  | p + 1 => d1_ L p (ds_ L d p) 7
def dm_ (L : g_L) (d : Int64) : Nat → Int64
  | 0 => d
  | k + 1 => dg_ (dm_ L d k) (gn_ L k)
def dw_ (L : g_L) (d : Int64) : Int64 := dm_ L (ds_ L (dg_ (dc_ L d 7) (fa_ L L.length)) (zs_ L.length)) L.length
def di_ (A B : g_L) : Int64 := dc_ (bo_ A B) (dw_ B (dw_ A 1747)) 4
/-! the class's whole state -/
def g_C (D : va_G) (σ : Nat → va_E) (Ls : Nat → g_L) : Prop := σ 0 = .inr (2, [.ref (ad_ D 1), .ref (ad_ D 4), .ref (ad_ D 7), .ref (ad_ D 10)]) ∧ g_V D σ 1 (Ls 0) ∧ g_V D σ 4 (Ls 1) ∧ (∃ Lc, g_V D σ 7 Lc) ∧ ∃ sz T, g_S D σ sz T
/-- both woods are valid, at most 24 villages each -/
def vC_ (Ls : Nat → g_L) : Prop := ∀ w, w ≤ 1 → vL_ (Ls w) ∧ (Ls w).length ≤ 24
def ul_ (Ls : Nat → g_L) (w : Nat) (L : g_L) : Nat → g_L := fun j => if j = w then L else Ls j
theorem g_C.wood {D : va_G} {σ : Nat → va_E} {Ls : Nat → g_L} {w : Nat} (h : g_C D σ Ls) (hw : w ≤ 1) : g_V D σ (1 + 3 * w) (Ls w) := by
  rcases (show w = 0 ∨ w = 1 by omega) with rfl | rfl
  · exact h.2.1
  · exact h.2.2.1
theorem g_C.wood2 {D : va_G} {σ : Nat → va_E} {Ls : Nat → g_L} {w : Nat} (h : g_C D σ Ls) (hw : w ≤ 1) : g_V D σ (4 - 3 * w) (Ls (1 - w)) := by
  rcases (show w = 0 ∨ w = 1 by omega) with rfl | rfl
  · exact h.2.2.1
  · exact h.2.1
theorem g_off.at0 {σ σ' : Nat → va_E} {lo hi k : Nat} {e : va_E} (ho : g_off lo hi σ σ') (h : σ k = e) (hk : k < lo ∨ hi < k) : σ' k = e := (ho k hk).trans h
theorem g_C.signs {D : va_G} {σ σ' : Nat → va_E} {Ls : Nat → g_L} {sz : Nat} {T : Nat → Nat → Int32} (h : g_C D σ Ls) (ho : g_off 10 19 σ σ') (hs : g_S D σ' sz T) : g_C D σ' Ls := by
  obtain ⟨h0, h1, h2, ⟨Lc, h3⟩, -⟩ := h
  exact ⟨ho.at0 h0 (by decide), h1.off ho (by decide), h2.off ho (by decide), ⟨Lc, h3.off ho (by decide)⟩, sz, T, hs⟩
theorem g_C.both {D : va_G} {σ σ' : Nat → va_E} {Ls : Nat → g_L} {L : g_L} (h : g_C D σ Ls) (ho : g_off 7 9 σ σ') (hv : g_V D σ' 7 L) : g_C D σ' Ls := by
  obtain ⟨h0, h1, h2, -, sz, T, h4⟩ := h
  exact ⟨ho.at0 h0 (by decide), h1.off ho (by decide), h2.off ho (by decide), ⟨L, hv⟩, sz, T, h4.off ho (by decide)⟩
theorem g_C.upd {D : va_G} {σ σ' : Nat → va_E} {Ls : Nat → g_L} {L : g_L} {w : Nat} (h : g_C D σ Ls) (hw : w ≤ 1) (ho : g_off (1 + 3 * w) (1 + 3 * w + 2) σ σ') (hv : g_V D σ' (1 + 3 * w) L) : g_C D σ' (ul_ Ls w L) := by
  obtain ⟨h0, h1, h2, ⟨Lc, h3⟩, sz, T, h4⟩ := h
  rcases (show w = 0 ∨ w = 1 by omega) with rfl | rfl
  · exact ⟨ho.at0 h0 (by decide), hv, h2.off ho (by decide), ⟨Lc, h3.off ho (by decide)⟩, sz, T, h4.off ho (by decide)⟩
  · exact ⟨ho.at0 h0 (by decide), h1.off ho (by decide), hv, ⟨Lc, h3.off ho (by decide)⟩, sz, T, h4.off ho (by decide)⟩
theorem g_C.two {D : va_G} {σ σ' : Nat → va_E} {Ls : Nat → g_L} {L M : g_L} {w : Nat} (h : g_C D σ Ls) (hw : w ≤ 1) (ho : g_off 1 6 σ σ') (hv : g_V D σ' (1 + 3 * w) L) (hv2 : g_V D σ' (4 - 3 * w) M) : g_C D σ' (ul_ (ul_ Ls w L) (1 - w) M) := by
  obtain ⟨h0, h1, h2, ⟨Lc, h3⟩, sz, T, h4⟩ := h
  rcases (show w = 0 ∨ w = 1 by omega) with rfl | rfl
  · exact ⟨ho.at0 h0 (by decide), hv, hv2, ⟨Lc, h3.off ho (by decide)⟩, sz, T, h4.off ho (by decide)⟩
  · exact ⟨ho.at0 h0 (by decide), hv2, hv, ⟨Lc, h3.off ho (by decide)⟩, sz, T, h4.off ho (by decide)⟩
/-! what each call refuses: 0 nothing, 1 .. 3 the exception's place in the list of the law's catches -/
def wl_ (Ls : Nat → g_L) (wood : Int32) : g_L := if wood = 0 then Ls 0 else Ls 1
theorem wl_n {Ls : Nat → g_L} {w : Nat} (h : w ≤ 1) : wl_ Ls (nI w) = Ls w := by
  rcases (show w = 0 ∨ w = 1 by omega) with rfl | rfl
  · rfl
  · rfl
end
