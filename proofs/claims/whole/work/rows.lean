section
-- ===== PART A: goes FIRST, ahead of the names: the tables' words, and 'selects' of the private methods out of them =====
/-- a private method of a class that the tables say can be made, by its rows of tables_1 -/
def lw_okq (q : MethodName × Nat) : Prop := (q.1.cls ≠ "java/lang/invoke/MethodHandle" ∧ q.1.cls ≠ "java/lang/invoke/VarHandle") ∧ Cond.instantiable q.1.cls q.2 ∈ tables_1 ∧ Cond.privateMethod q.1 ∈ tables_1 ∧ Cond.instanceMethod q.1 ∈ tables_1
theorem lw_p0 : lw_okq (⟨"java/lang/Throwable", "fillInStackTrace", "(I)Ljava/lang/Throwable;"⟩, 6) := ⟨⟨by decide +kernel, by decide +kernel⟩, List.mem_of_getElem? (i := 257) (by decide +kernel), List.mem_of_getElem? (i := 255) (by decide +kernel), List.mem_of_getElem? (i := 256) (by decide +kernel)⟩
theorem lw_p1 : lw_okq (⟨"Bumpherald", "checkPackage", "(I)V"⟩, 6) := ⟨⟨by decide +kernel, by decide +kernel⟩, List.mem_of_getElem? (i := 17) (by decide +kernel), List.mem_of_getElem? (i := 315) (by decide +kernel), List.mem_of_getElem? (i := 316) (by decide +kernel)⟩
theorem lw_p2 : lw_okq (⟨"Bumpherald", "checkReviewer", "(I)V"⟩, 6) := ⟨⟨by decide +kernel, by decide +kernel⟩, List.mem_of_getElem? (i := 17) (by decide +kernel), List.mem_of_getElem? (i := 349) (by decide +kernel), List.mem_of_getElem? (i := 350) (by decide +kernel)⟩
theorem lw_p3 : lw_okq (⟨"Bumpherald$Raises", "listOpen", "()V"⟩, 12) := ⟨⟨by decide +kernel, by decide +kernel⟩, List.mem_of_getElem? (i := 84) (by decide +kernel), List.mem_of_getElem? (i := 394) (by decide +kernel), List.mem_of_getElem? (i := 395) (by decide +kernel)⟩
theorem lw_p4 : lw_okq (⟨"Bumpherald$Reviewers", "hasOwnReviewer", "(I)Z"⟩, 2) := ⟨⟨by decide +kernel, by decide +kernel⟩, List.mem_of_getElem? (i := 150) (by decide +kernel), List.mem_of_getElem? (i := 410) (by decide +kernel), List.mem_of_getElem? (i := 411) (by decide +kernel)⟩
theorem lw_p5 : lw_okq (⟨"Bumpherald$Reviewers", "reviewsAnother", "(III)Z"⟩, 2) := ⟨⟨by decide +kernel, by decide +kernel⟩, List.mem_of_getElem? (i := 150) (by decide +kernel), List.mem_of_getElem? (i := 414) (by decide +kernel), List.mem_of_getElem? (i := 415) (by decide +kernel)⟩
theorem lw_p6 : lw_okq (⟨"Bumpherald$Reviewers", "bestFor", "(I)I"⟩, 2) := ⟨⟨by decide +kernel, by decide +kernel⟩, List.mem_of_getElem? (i := 150) (by decide +kernel), List.mem_of_getElem? (i := 418) (by decide +kernel), List.mem_of_getElem? (i := 419) (by decide +kernel)⟩
theorem lw_p7 : lw_okq (⟨"Bumpherald$Reviewers", "give", "(II)V"⟩, 2) := ⟨⟨by decide +kernel, by decide +kernel⟩, List.mem_of_getElem? (i := 150) (by decide +kernel), List.mem_of_getElem? (i := 426) (by decide +kernel), List.mem_of_getElem? (i := 427) (by decide +kernel)⟩
theorem lw_p8 : lw_okq (⟨"Bumpherald", "checkOpen", "(I)V"⟩, 6) := ⟨⟨by decide +kernel, by decide +kernel⟩, List.mem_of_getElem? (i := 17) (by decide +kernel), List.mem_of_getElem? (i := 437) (by decide +kernel), List.mem_of_getElem? (i := 438) (by decide +kernel)⟩
theorem lw_p9 : lw_okq (⟨"Bumpherald", "checkRaise", "(I)V"⟩, 6) := ⟨⟨by decide +kernel, by decide +kernel⟩, List.mem_of_getElem? (i := 17) (by decide +kernel), List.mem_of_getElem? (i := 441) (by decide +kernel), List.mem_of_getElem? (i := 442) (by decide +kernel)⟩
theorem lw_p10 : lw_okq (⟨"Bumpherald", "isLandable", "(I)Z"⟩, 6) := ⟨⟨by decide +kernel, by decide +kernel⟩, List.mem_of_getElem? (i := 17) (by decide +kernel), List.mem_of_getElem? (i := 459) (by decide +kernel), List.mem_of_getElem? (i := 460) (by decide +kernel)⟩
theorem lw_p11 : lw_okq (⟨"Bumpherald$Raises", "plan", "(I)V"⟩, 12) := ⟨⟨by decide +kernel, by decide +kernel⟩, List.mem_of_getElem? (i := 84) (by decide +kernel), List.mem_of_getElem? (i := 467) (by decide +kernel), List.mem_of_getElem? (i := 468) (by decide +kernel)⟩
theorem lw_p12 : lw_okq (⟨"Bumpherald$Packages", "holdsInPlan", "(I)Z"⟩, 8) := ⟨⟨by decide +kernel, by decide +kernel⟩, List.mem_of_getElem? (i := 25) (by decide +kernel), List.mem_of_getElem? (i := 480) (by decide +kernel), List.mem_of_getElem? (i := 481) (by decide +kernel)⟩
theorem lw_p13 : lw_okq (⟨"Bumpherald$Herding", "mateOf", "(I)I"⟩, 4) := ⟨⟨by decide +kernel, by decide +kernel⟩, List.mem_of_getElem? (i := 164) (by decide +kernel), List.mem_of_getElem? (i := 535) (by decide +kernel), List.mem_of_getElem? (i := 536) (by decide +kernel)⟩
theorem lw_p14 : lw_okq (⟨"Bumpherald$Herding", "sleepsTooLong", "(II)Z"⟩, 4) := ⟨⟨by decide +kernel, by decide +kernel⟩, List.mem_of_getElem? (i := 164) (by decide +kernel), List.mem_of_getElem? (i := 555) (by decide +kernel), List.mem_of_getElem? (i := 556) (by decide +kernel)⟩
theorem lw_p15 : lw_okq (⟨"Bumpherald$Herding", "bestPartner", "(I)I"⟩, 4) := ⟨⟨by decide +kernel, by decide +kernel⟩, List.mem_of_getElem? (i := 164) (by decide +kernel), List.mem_of_getElem? (i := 560) (by decide +kernel), List.mem_of_getElem? (i := 561) (by decide +kernel)⟩
def lw_privs_1 : List (MethodName × Nat) := [(⟨"java/lang/Throwable", "fillInStackTrace", "(I)Ljava/lang/Throwable;"⟩, 6), (⟨"Bumpherald", "checkPackage", "(I)V"⟩, 6), (⟨"Bumpherald", "checkReviewer", "(I)V"⟩, 6), (⟨"Bumpherald$Raises", "listOpen", "()V"⟩, 12), (⟨"Bumpherald$Reviewers", "hasOwnReviewer", "(I)Z"⟩, 2), (⟨"Bumpherald$Reviewers", "reviewsAnother", "(III)Z"⟩, 2), (⟨"Bumpherald$Reviewers", "bestFor", "(I)I"⟩, 2), (⟨"Bumpherald$Reviewers", "give", "(II)V"⟩, 2), (⟨"Bumpherald", "checkOpen", "(I)V"⟩, 6), (⟨"Bumpherald", "checkRaise", "(I)V"⟩, 6), (⟨"Bumpherald", "isLandable", "(I)Z"⟩, 6), (⟨"Bumpherald$Raises", "plan", "(I)V"⟩, 12), (⟨"Bumpherald$Packages", "holdsInPlan", "(I)Z"⟩, 8), (⟨"Bumpherald$Herding", "mateOf", "(I)I"⟩, 4), (⟨"Bumpherald$Herding", "sleepsTooLong", "(II)Z"⟩, 4), (⟨"Bumpherald$Herding", "bestPartner", "(I)I"⟩, 4)]
theorem lw_r1 : ∀ q ∈ lw_privs_1, lw_okq q := List.forall_mem_cons.mpr ⟨lw_p0, List.forall_mem_cons.mpr ⟨lw_p1, List.forall_mem_cons.mpr ⟨lw_p2, List.forall_mem_cons.mpr ⟨lw_p3, List.forall_mem_cons.mpr ⟨lw_p4, List.forall_mem_cons.mpr ⟨lw_p5, List.forall_mem_cons.mpr ⟨lw_p6, List.forall_mem_cons.mpr ⟨lw_p7, List.forall_mem_cons.mpr ⟨lw_p8, List.forall_mem_cons.mpr ⟨lw_p9, List.forall_mem_cons.mpr ⟨lw_p10, List.forall_mem_cons.mpr ⟨lw_p11, List.forall_mem_cons.mpr ⟨lw_p12, List.forall_mem_cons.mpr ⟨lw_p13, List.forall_mem_cons.mpr ⟨lw_p14, List.forall_mem_cons.mpr ⟨lw_p15, fun _ h => absurd h List.not_mem_nil⟩⟩⟩⟩⟩⟩⟩⟩⟩⟩⟩⟩⟩⟩⟩⟩
theorem lw_p16 : lw_okq (⟨"Bumpherald$Herding", "join", "(II)V"⟩, 4) := ⟨⟨by decide +kernel, by decide +kernel⟩, List.mem_of_getElem? (i := 164) (by decide +kernel), List.mem_of_getElem? (i := 564) (by decide +kernel), List.mem_of_getElem? (i := 565) (by decide +kernel)⟩
theorem lw_p17 : lw_okq (⟨"BumpheraldModel", "refused", "(I)Z"⟩, 25) := ⟨⟨by decide +kernel, by decide +kernel⟩, List.mem_of_getElem? (i := 644) (by decide +kernel), List.mem_of_getElem? (i := 737) (by decide +kernel), List.mem_of_getElem? (i := 738) (by decide +kernel)⟩
theorem lw_p18 : lw_okq (⟨"BumpheraldModel", "isPack", "(I)Z"⟩, 25) := ⟨⟨by decide +kernel, by decide +kernel⟩, List.mem_of_getElem? (i := 644) (by decide +kernel), List.mem_of_getElem? (i := 745) (by decide +kernel), List.mem_of_getElem? (i := 746) (by decide +kernel)⟩
theorem lw_p19 : lw_okq (⟨"BumpheraldModel", "open", "()I"⟩, 25) := ⟨⟨by decide +kernel, by decide +kernel⟩, List.mem_of_getElem? (i := 644) (by decide +kernel), List.mem_of_getElem? (i := 768) (by decide +kernel), List.mem_of_getElem? (i := 769) (by decide +kernel)⟩
theorem lw_p20 : lw_okq (⟨"BumpheraldModel", "give", "(I)V"⟩, 25) := ⟨⟨by decide +kernel, by decide +kernel⟩, List.mem_of_getElem? (i := 644) (by decide +kernel), List.mem_of_getElem? (i := 772) (by decide +kernel), List.mem_of_getElem? (i := 773) (by decide +kernel)⟩
theorem lw_p21 : lw_okq (⟨"BumpheraldModel", "has", "(IIII)Z"⟩, 25) := ⟨⟨by decide +kernel, by decide +kernel⟩, List.mem_of_getElem? (i := 644) (by decide +kernel), List.mem_of_getElem? (i := 776) (by decide +kernel), List.mem_of_getElem? (i := 777) (by decide +kernel)⟩
theorem lw_p22 : lw_okq (⟨"BumpheraldModel", "loadOf", "(II)I"⟩, 25) := ⟨⟨by decide +kernel, by decide +kernel⟩, List.mem_of_getElem? (i := 644) (by decide +kernel), List.mem_of_getElem? (i := 780) (by decide +kernel), List.mem_of_getElem? (i := 781) (by decide +kernel)⟩
theorem lw_p23 : lw_okq (⟨"BumpheraldModel", "isRaise", "(I)Z"⟩, 25) := ⟨⟨by decide +kernel, by decide +kernel⟩, List.mem_of_getElem? (i := 644) (by decide +kernel), List.mem_of_getElem? (i := 788) (by decide +kernel), List.mem_of_getElem? (i := 789) (by decide +kernel)⟩
theorem lw_p24 : lw_okq (⟨"BumpheraldModel", "landable", "(I)Z"⟩, 25) := ⟨⟨by decide +kernel, by decide +kernel⟩, List.mem_of_getElem? (i := 644) (by decide +kernel), List.mem_of_getElem? (i := 796) (by decide +kernel), List.mem_of_getElem? (i := 797) (by decide +kernel)⟩
theorem lw_p25 : lw_okq (⟨"BumpheraldModel", "failsWith", "(II)I"⟩, 25) := ⟨⟨by decide +kernel, by decide +kernel⟩, List.mem_of_getElem? (i := 644) (by decide +kernel), List.mem_of_getElem? (i := 800) (by decide +kernel), List.mem_of_getElem? (i := 801) (by decide +kernel)⟩
theorem lw_p26 : lw_okq (⟨"BumpheraldModel", "asNow", "()V"⟩, 25) := ⟨⟨by decide +kernel, by decide +kernel⟩, List.mem_of_getElem? (i := 644) (by decide +kernel), List.mem_of_getElem? (i := 804) (by decide +kernel), List.mem_of_getElem? (i := 805) (by decide +kernel)⟩
theorem lw_p27 : lw_okq (⟨"BumpheraldModel", "failing", "()I"⟩, 25) := ⟨⟨by decide +kernel, by decide +kernel⟩, List.mem_of_getElem? (i := 644) (by decide +kernel), List.mem_of_getElem? (i := 808) (by decide +kernel), List.mem_of_getElem? (i := 809) (by decide +kernel)⟩
theorem lw_p28 : lw_okq (⟨"BumpheraldModel", "sizeOf", "(I)I"⟩, 25) := ⟨⟨by decide +kernel, by decide +kernel⟩, List.mem_of_getElem? (i := 644) (by decide +kernel), List.mem_of_getElem? (i := 812) (by decide +kernel), List.mem_of_getElem? (i := 813) (by decide +kernel)⟩
theorem lw_p29 : lw_okq (⟨"BumpheraldModel", "settle", "(I)V"⟩, 25) := ⟨⟨by decide +kernel, by decide +kernel⟩, List.mem_of_getElem? (i := 644) (by decide +kernel), List.mem_of_getElem? (i := 820) (by decide +kernel), List.mem_of_getElem? (i := 821) (by decide +kernel)⟩
theorem lw_p30 : lw_okq (⟨"BumpheraldModel", "wake", "(I)V"⟩, 25) := ⟨⟨by decide +kernel, by decide +kernel⟩, List.mem_of_getElem? (i := 644) (by decide +kernel), List.mem_of_getElem? (i := 828) (by decide +kernel), List.mem_of_getElem? (i := 829) (by decide +kernel)⟩
theorem lw_p31 : lw_okq (⟨"BumpheraldModel", "oldest", "(I)I"⟩, 25) := ⟨⟨by decide +kernel, by decide +kernel⟩, List.mem_of_getElem? (i := 644) (by decide +kernel), List.mem_of_getElem? (i := 832) (by decide +kernel), List.mem_of_getElem? (i := 833) (by decide +kernel)⟩
def lw_privs_2 : List (MethodName × Nat) := [(⟨"Bumpherald$Herding", "join", "(II)V"⟩, 4), (⟨"BumpheraldModel", "refused", "(I)Z"⟩, 25), (⟨"BumpheraldModel", "isPack", "(I)Z"⟩, 25), (⟨"BumpheraldModel", "open", "()I"⟩, 25), (⟨"BumpheraldModel", "give", "(I)V"⟩, 25), (⟨"BumpheraldModel", "has", "(IIII)Z"⟩, 25), (⟨"BumpheraldModel", "loadOf", "(II)I"⟩, 25), (⟨"BumpheraldModel", "isRaise", "(I)Z"⟩, 25), (⟨"BumpheraldModel", "landable", "(I)Z"⟩, 25), (⟨"BumpheraldModel", "failsWith", "(II)I"⟩, 25), (⟨"BumpheraldModel", "asNow", "()V"⟩, 25), (⟨"BumpheraldModel", "failing", "()I"⟩, 25), (⟨"BumpheraldModel", "sizeOf", "(I)I"⟩, 25), (⟨"BumpheraldModel", "settle", "(I)V"⟩, 25), (⟨"BumpheraldModel", "wake", "(I)V"⟩, 25), (⟨"BumpheraldModel", "oldest", "(I)I"⟩, 25)]
theorem lw_r2 : ∀ q ∈ lw_privs_2, lw_okq q := List.forall_mem_cons.mpr ⟨lw_p16, List.forall_mem_cons.mpr ⟨lw_p17, List.forall_mem_cons.mpr ⟨lw_p18, List.forall_mem_cons.mpr ⟨lw_p19, List.forall_mem_cons.mpr ⟨lw_p20, List.forall_mem_cons.mpr ⟨lw_p21, List.forall_mem_cons.mpr ⟨lw_p22, List.forall_mem_cons.mpr ⟨lw_p23, List.forall_mem_cons.mpr ⟨lw_p24, List.forall_mem_cons.mpr ⟨lw_p25, List.forall_mem_cons.mpr ⟨lw_p26, List.forall_mem_cons.mpr ⟨lw_p27, List.forall_mem_cons.mpr ⟨lw_p28, List.forall_mem_cons.mpr ⟨lw_p29, List.forall_mem_cons.mpr ⟨lw_p30, List.forall_mem_cons.mpr ⟨lw_p31, fun _ h => absurd h List.not_mem_nil⟩⟩⟩⟩⟩⟩⟩⟩⟩⟩⟩⟩⟩⟩⟩⟩
def lw_privs : List (MethodName × Nat) := lw_privs_1 ++ (lw_privs_2)
def lw_tbl : List Cond := k2_sels lw_privs ++ tables_1
theorem lw_privs_ok : ∀ q ∈ lw_privs, lw_okq q := by
  show ∀ q ∈ lw_privs_1 ++ (lw_privs_2), lw_okq q
  exact List.forall_mem_append.mpr ⟨lw_r1, lw_r2⟩
-- ===== end of PART A
/-! ===== BEGIN words of one list among another's, by their places ===== -/
theorem goodIn_r {big : List Cond} (ws : List Cond) (ps : List Nat) (hp : ws = ps.filterMap (fun i => big[i]?)) (h : ws.all goodWord = true) : GoodIn big ws := by
  intro w hw
  have h1 := List.all_eq_true.mp h w hw
  rw [hp] at hw
  obtain ⟨i, -, hi⟩ := List.mem_filterMap.mp hw
  have hm : w ∈ big := by first | exact List.mem_of_getElem? hi | exact List.getElem?_mem hi
  exact ⟨hm, good_of_word h1⟩
theorem goodIn_app {big a b : List Cond} (ha : GoodIn big a) (hb : GoodIn big b) : GoodIn big (a ++ b) := fun w h => (List.mem_append.mp h).elim (ha w) (hb w)
theorem goodIn_ca {big a b : List Cond} {c : Cond} (ha : GoodIn big (c :: a)) (hb : GoodIn big b) : GoodIn big (c :: (a ++ b)) := fun w h => (List.mem_cons.mp h).elim (fun e => ha w (List.mem_cons.mpr (Or.inl e))) (fun h => (List.mem_append.mp h).elim (fun h => ha w (List.mem_cons.mpr (Or.inr h))) (hb w))
theorem goodIn_sub {big ws : List Cond} (hm : ∀ w ∈ ws, w ∈ big) (h : ws.all goodWord = true) : GoodIn big ws := fun w hw => ⟨hm w hw, good_of_word (List.all_eq_true.mp h w hw)⟩
/-! ===== END ===== -/

/-! ===== BEGIN exceptions that leave a method, and their catching by the caller (launches without stack traces) ===== -/
section VXA
/-! The laws vx_back, vx_callV, vx_callS, vx_callSW, vx_throw0, vx_throwS follow proofs of the library, with one case more: JvmDerived/Free/Laws.lean (Back.of_free), Shelf42/LK1.lean (callV, callS), Shelf/KitTraced.lean (throwNew0V, throwNewS). -/
/-- where a method has thrown q: the class by its name, the cell, what was written, the world -/
def vx_T (XC : String → State → State → Prop) (st : State) (q : Addr) (t : State) (mc ms : Nat) (free : Addr → Prop) : Prop :=
  ∃ (E : String) (ce : Cell) (L : List Loc), XC E st t ∧ t.heap[q]? = some ce ∧ ce.vm = .none ∧ st.vm.findClass E = some ce.cls ∧ st.WarmedH t.vm ∧ st.sameButNew ({ t with vm := st.vm } : State) L mc ms ∧ ∀ z ∈ L, free z.base
def vx_Q (Qc : Array Value → State → Outcome → State → Prop) (XC : String → State → State → Prop) (mc ms : Nat) (free : Addr → Prop) : Array Value → State → Outcome → State → Prop := fun a st o t =>
  (Qc a st o t ∧ ∃ L, FrameEnd st o t L mc ms ∧ ∀ q ∈ L, free q.base) ∨ ∃ q, o = .threw q ∧ vx_T XC st q t mc ms free
/-- a callee that returns or throws -/
def vx_Met (l : Launch) (y : MethodName) (ws : List Cond) (rm : Room) (Pc : Array Value → State → Prop) (Qc : Array Value → State → Outcome → State → Prop) (XC : String → State → State → Prop) (mc ms : Nat) (free : Addr → Prop) : Prop :=
  MetFree l y (headSpec ws rm) Pc (fun _ _ _ _ _ => True) (vx_Q Qc XC mc ms free)
def vx_Post (XC : String → State → State → Prop) (mc ms : Nat) (free : Addr → Prop) : Pt → Array Value → Addr → Pt → Prop := fun A a q B =>
  ∃ (g : JFrame) (mk : MethodId) (t : State) (L : List Loc) (E : String) (ce : Cell), B.U.heap = t.heap ∧ B.U.vm = t.vm ∧ XC E (A.U.calling g mk a) t ∧ t.heap[q]? = some ce ∧ ce.vm = .none ∧ A.U.vm.findClass E = some ce.cls ∧ B.locs = A.locs ++ L ∧ (∀ z ∈ L, free z.base) ∧ B.cells = A.cells + mc ∧ B.slots = A.slots + ms
def vx_Back (l : Launch) (R : Room) (p : Program) (e : Env) (below : List Frame) (s : State) (sargs : Array Value) (y : MethodName) (len W9 : Nat)
    (Pre : Pt → Array Value → Prop) (Post : Pt → Array Value → Option Value → Pt → Prop) (PostX : Pt → Array Value → Addr → Pt → Prop) : Prop :=
  ∀ (m : MethodId) (meth : Method) (c : Code) (A : Pt) (g : JFrame) (ig : Instr) (mk : MethodId) (a : Array Value),
    Stand p l e R s m sargs below meth c A.U A.locs A.cells A.slots → g.method = m → g.locals.size = c.maxLocals → decode c.code g.pc = .ok (ig, len) →
    2 * g.monitorRoom + (g.stack.map fun v => v.category).sum ≤ W9 → A.U.methodNamed? y = some mk → Pre A a →
    (∃ (v : Option Value) (B : Pt), Stand p l e R s m sargs below meth c B.U B.locs B.cells B.slots ∧ Post A a v B ∧
      Steps p.tables e below (doInvoke e (A.U.setTop g) [] mk a).1 (B.U.setTop { g with pc := g.pc + len, stack := v.toList ++ g.stack })) ∨
    (∃ (q : Addr) (B : Pt), Stand p l e R s m sargs below meth c B.U B.locs B.cells B.slots ∧ PostX A a q B ∧
      Steps p.tables e below (doInvoke e (A.U.setTop g) [] mk a).1 ((B.U.setTop g).pushFrame (.throwing q)))
section Payer
variable {l : Launch} {R : Room} {p : Program} {e : Env} {below : List Frame} {s : State} {sargs : Array Value} {y : MethodName} {len W9 : Nat}
theorem vx_back {ws : List Cond} {rm : Room} {Pc : Array Value → State → Prop} {Qc : Array Value → State → Outcome → State → Prop} {XC : String → State → State → Prop} {mc ms : Nat} {free : Addr → Prop} {bytes : ByteArray} {maxL : Nat} {ret : Option FieldType}
    (hM : vx_Met l y ws rm Pc Qc XC mc ms free) (hblind : FrameBlind Pc) (hrc : rm.cells = mc) (hrs : rm.slots = ms)
    (hframes : rm.frames + 1 ≤ R.frames) (hlocals : W9 + (maxL + 11) + rm.locals ≤ R.locals)
    (hws : ∀ w ∈ ws, ∀ a' U, s.WarmedH U.vm → w.before a' U = true) (hcode : Cond.code y bytes maxL ret ∈ ws) (hinit : ∀ a' U, s.WarmedH U.vm → (Cond.initialized y.cls).before a' U = true) :
    vx_Back l R p e below s sargs y len W9 (PreOf R mc ms Pc) (PostOf Qc mc ms free) (vx_Post XC mc ms free) := by
  intro m meth c A g ig mk a X hg hsize hdg hW hn hp
  have h1 : (headSpec ws rm).pre.before a A.U = true := atoms_intro fun w hw => hws w hw _ _ X.warmed
  have h2 : (Cond.code y bytes maxL ret).before a A.U = true := hws _ hcode _ _ X.warmed
  have h3 : (Cond.initialized y.cls).before a A.U = true := hinit _ _ X.warmed
  have h4 : A.cells + (headSpec ws rm).room.cells ≤ R.cells := by rw [show (headSpec ws rm).room.cells = mc from hrc]; exact hp.1
  have h5 : A.slots + (headSpec ws rm).room.slots ≤ R.slots := by rw [show (headSpec ws rm).room.slots = ms from hrs]; exact hp.2.1
  have hPc : Pc a (A.U.calling g mk a) := hblind _ _ _ _ hp.2.2
  obtain ⟨U, Ls, c0, s0⟩ := A
  dsimp only [Pt.U, Pt.locs, Pt.cells, Pt.slots] at h1 h2 h3 h4 h5 X hn hPc ⊢
  obtain ⟨methY, cY, hmY, hcY, -, hlY, -, -, -, -⟩ := Cond.code_spec hn h2
  obtain ⟨kY, hkY, -⟩ := className_of_methodNamed hn
  have hinitY : kY.init = .initialized := Cond.initialized_spec (findClass_of_methodNamed hn) hkY h3
  have h : At U g.method c below := by rw [hg]; exact X.here
  have hlocals9 : W9 + (maxL + 11) + (headSpec ws rm).room.locals ≤ R.locals := hlocals
  have happ : (headSpec ws rm).appliesLoose y e.platform (U.calling g mk a) = true :=
    Spec.appliesLoose_calling (g := g) h hdg hn hkY hinitY
      (X.room_calling (g := g) (R' := (headSpec ws rm).room) hsize hmY hcY hframes (by rw [hlY]; omega) h4 h5) h1
  obtain ⟨mid, hmid⟩ := h.above
  have hfr : (U.setTop g).frames = (.java g :: mid) ++ below := by rw [State.frames_setTop' g h.top, hmid]; rfl
  obtain ⟨o, s₂, hsteps, -, hend, hq⟩ := Steps.callFree hM p X.admits X.cas X.clock (acts := []) hfr happ hPc trivial
  have hq' : vx_Q Qc XC mc ms free a (U.calling g mk a) o s₂ := hq
  rw [State.frames_setTop' g h.top] at hend
  obtain ⟨g₀, hg0⟩ := Option.isSome_iff_exists.mp h.top
  obtain ⟨r, hr⟩ := State.topJava?_eq_some.mp hg0
  have hr' : (({ U with heap := s₂.heap, slotsUsed := s₂.slotsUsed } : State).setVm s₂.vm).frames = .java g₀ :: r := hr
  rcases hq' with ⟨hqc, L, hfe, hL⟩ | ⟨q, rfl, E, ce, L, hx, hce, hcv, hcl, hW₂, hsm, hL⟩
  · obtain ⟨⟨v, rfl⟩, hW₂, e2, q2, q3, q4, q5, q6⟩ := id hfe
    have e3 : s₂ = ({ (U.calling g mk a).setFrames s₂.frames with heap := s₂.heap, slotsUsed := s₂.slotsUsed } : State).setVm s₂.vm := by
      have : s₂ = ({ s₂ with vm := (U.calling g mk a).vm } : State).setVm s₂.vm := rfl
      rw [e2] at this
      exact this
    obtain ⟨c₂, i₂, len₂, hc₂, hd₂, hf₂⟩ := hend
    have hW' : U.WarmedH s₂.vm := hW₂
    have hcc : c₂ = c := by
      have h1 : s₂.code? g.method = U.code? g.method := by
        rw [State.code?_eq, State.code?_eq, hW'.alike.method?]
      exact Option.some.inj (hc₂.symm.trans (h1.trans h.code))
    subst hcc
    have hlen : len₂ = len := by rw [hdg] at hd₂; cases hd₂; rfl
    subst hlen
    have hs₂ : s₂ = (({ U with heap := s₂.heap, slotsUsed := s₂.slotsUsed } : State).setVm s₂.vm).setTop { g with pc := g.pc + len₂, stack := v.toList ++ g.stack } := by
      refine e3.trans ?_
      rw [hf₂, State.calling_eq h.top, State.setFrames_setFrames, State.setTop_of_frames _ hr', hr]
      rfl
    have hsame : U.sameButNew ({ U with heap := s₂.heap, slotsUsed := s₂.slotsUsed } : State) L mc ms := by
      refine ⟨?_, q2, q3, q4, q5, q6⟩
      obtain ⟨t, ht, -⟩ := State.frames_cons hr
      show ({ U with heap := s₂.heap, slotsUsed := s₂.slotsUsed } : State) = { U.setFrames U.frames with heap := s₂.heap, slotsUsed := s₂.slotsUsed }
      rw [State.setFrames_self ht]
    subst hg
    refine Or.inl ⟨v, ⟨(({ U with heap := s₂.heap, slotsUsed := s₂.slotsUsed } : State).setVm s₂.vm), Ls ++ L, c0 + mc, s0 + ms⟩,
      ⟨X.admits, X.cas, X.clock, X.frames, X.room, X.hears, X.method, X.code, (X.here.setHeapUsed s₂.heap s₂.slotsUsed).setVm hW'.alike, X.tail, State.WarmedH.trans X.warmed hW', X.limits, X.bytes, X.same.trans (hsame.setVm s.vm)⟩,
      ⟨g, mk, s₂, L, rfl, rfl, hqc, rfl, hL, rfl, rfl⟩, ?_⟩
    show Steps p.tables e below _ ((({ U with heap := s₂.heap, slotsUsed := s₂.slotsUsed } : State).setVm s₂.vm).setTop { g with pc := g.pc + len₂, stack := v.toList ++ g.stack })
    rw [← hs₂]
    exact hsteps
  · obtain ⟨e2, q2, q3, q4, q5, q6⟩ := id hsm
    have e3 : s₂ = ({ (U.calling g mk a).setFrames s₂.frames with heap := s₂.heap, slotsUsed := s₂.slotsUsed } : State).setVm s₂.vm := by
      have : s₂ = ({ s₂ with vm := (U.calling g mk a).vm } : State).setVm s₂.vm := rfl
      rw [e2] at this
      exact this
    have hf₂ : s₂.frames = .throwing q :: .java g :: U.frames.tail := hend
    have hW' : U.WarmedH s₂.vm := hW₂
    have hs₂ : s₂ = ((({ U with heap := s₂.heap, slotsUsed := s₂.slotsUsed } : State).setVm s₂.vm).setTop g).pushFrame (.throwing q) := by
      refine e3.trans ?_
      rw [hf₂, State.calling_eq h.top, State.setFrames_setFrames, State.pushFrame, State.frames_setTop _ hr', State.setTop_of_frames _ hr', State.setFrames_setFrames, hr]
      rfl
    have hsame : U.sameButNew ({ U with heap := s₂.heap, slotsUsed := s₂.slotsUsed } : State) L mc ms := by
      refine ⟨?_, q2, q3, q4, q5, q6⟩
      obtain ⟨t, ht, -⟩ := State.frames_cons hr
      show ({ U with heap := s₂.heap, slotsUsed := s₂.slotsUsed } : State) = { U.setFrames U.frames with heap := s₂.heap, slotsUsed := s₂.slotsUsed }
      rw [State.setFrames_self ht]
    subst hg
    refine Or.inr ⟨q, ⟨(({ U with heap := s₂.heap, slotsUsed := s₂.slotsUsed } : State).setVm s₂.vm), Ls ++ L, c0 + mc, s0 + ms⟩,
      ⟨X.admits, X.cas, X.clock, X.frames, X.room, X.hears, X.method, X.code, (X.here.setHeapUsed s₂.heap s₂.slotsUsed).setVm hW'.alike, X.tail, State.WarmedH.trans X.warmed hW', X.limits, X.bytes, X.same.trans (hsame.setVm s.vm)⟩,
      ⟨g, mk, s₂, L, E, ce, rfl, rfl, hx, hce, hcv, hcl, rfl, hL, rfl, rfl⟩, ?_⟩
    show Steps p.tables e below _ (((({ U with heap := s₂.heap, slotsUsed := s₂.slotsUsed } : State).setVm s₂.vm).setTop g).pushFrame (.throwing q))
    rw [← hs₂]
    exact hsteps
end Payer
section Calls
variable {p : Program} {l : Launch} {e : Env} {R : Room} {s : State} {m : MethodId} {args : Array Value} {below : List Frame} {meth : Method} {c : Code} {T : State} {locs : List Loc} {cells slots : Nat}
theorem vx_callV (X : Stand p l e R s m args below meth c T locs cells slots) (hexec : p.tables.exec = Jvm.exec) {own C : String} {index : Nat} {y : MethodName} {bytes : ByteArray} {maxL : Nat} {ret : Option FieldType}
    (hown : s.vm.findClass own = some m.cls) (hlink : (Cond.methodLink own index y).before args s = true) (hinst : (Cond.instanceMethod y).before args s = true) (hsel : (Cond.selects C y y).before args s = true)
    (hcode : (Cond.code y bytes maxL ret).before args s = true) (hy : y.cls ≠ "java/lang/invoke/MethodHandle" ∧ y.cls ≠ "java/lang/invoke/VarHandle")
    {W9 : Nat} {Pre : Pt → Array Value → Prop} {Post : Pt → Array Value → Option Value → Pt → Prop} {PostX : Pt → Array Value → Addr → Pt → Prop} (hK : vx_Back l R p e below s args y 3 W9 Pre Post PostX)
    {b : Addr} {cellB : Cell} (hcell : T.heap[b]? = some cellB) (hobj : cellB.vm.isStatics = false) (hcls : s.vm.findClass C = some cellB.cls)
    {g : JFrame} (hg : g.method = m) (hsize : g.locals.size = c.maxLocals) {argsL rest : List Value} (hlen : ∀ sig, parseMethodDescriptor y.desc = some sig → argsL.length = sig.parameters.length)
    (hstack : g.stack = argsL.reverse ++ .ref b :: rest) (hW : 2 * g.monitorRoom + (rest.map fun v => v.category).sum ≤ W9) (hdg : decode c.code g.pc = .ok (.invokevirtual index, 3))
    (hpre : ∀ vm₁, s.WarmedH vm₁ → Pre ⟨T.setVm vm₁, locs, cells, slots⟩ (Value.ref b :: argsL).toArray) :
    (∃ (v : Option Value) (vm₁ : Vm) (B : Pt), s.WarmedH vm₁ ∧ Stand p l e R s m args below meth c B.U B.locs B.cells B.slots ∧ Post ⟨T.setVm vm₁, locs, cells, slots⟩ (Value.ref b :: argsL).toArray v B ∧
      ∀ target, Steps p.tables e below (B.U.setTop { g with pc := g.pc + 3, stack := v.toList ++ rest }) target → Steps p.tables e below (T.setTop g) target) ∨
    (∃ (q : Addr) (vm₁ : Vm) (B : Pt), s.WarmedH vm₁ ∧ Stand p l e R s m args below meth c B.U B.locs B.cells B.slots ∧ PostX ⟨T.setVm vm₁, locs, cells, slots⟩ (Value.ref b :: argsL).toArray q B ∧
      Steps p.tables e below (T.setTop g) ((B.U.setTop { g with stack := rest }).pushFrame (.throwing q))) := by
  obtain ⟨mk, methM, hnamed, hmethM, hstM, habM⟩ := Cond.instanceMethod_spec hinst
  obtain ⟨methM', cM, hmethM', -, -, -, -, -, -, hsigM⟩ := Cond.code_spec hnamed hcode
  cases hmethM.symm.trans hmethM'
  obtain ⟨c2, r2, m2, q1, q2, q3, q4, kP, hkP, hkPi⟩ := Cond.selects_spec hsel
  cases hcls.symm.trans q1
  cases (State.methodFound?_of_named hnamed hy).symm.trans q2
  cases hnamed.symm.trans q3
  have hselP : selectMethod e.platform s.vm cellB.cls mk = .method mk := by rw [Launch.admits_selectMethod X.admits]; exact q4
  obtain ⟨vm₁, X₁, hstep₁⟩ := X.invokevirtual hexec hown hlink hnamed hmethM hstM hkP hkPi hy (a := b) (cell := cellB) hcell
    (fun z h => by rw [h] at hobj; cases hobj) hselP hmethM habM hkP hkPi (g := g) hg (argsL := argsL) (rest := rest) (hlen _ hsigM) hstack hdg
  rcases hK m meth c ⟨T.setVm vm₁, locs, cells, slots⟩ { g with stack := rest } (.invokevirtual index) mk (Value.ref b :: argsL).toArray X₁ hg hsize hdg hW (X₁.named hnamed) (hpre vm₁ X₁.warmed) with ⟨v, B, X', hpost, hsteps⟩ | ⟨q, B, X', hpost, hsteps⟩
  · exact Or.inl ⟨v, vm₁, B, X₁.warmed, X', hpost, fun target h => hstep₁ _ fun acts => by rw [doInvoke_state]; exact hsteps.trans h⟩
  · exact Or.inr ⟨q, vm₁, B, X₁.warmed, X', hpost, hstep₁ _ fun acts => by rw [doInvoke_state]; exact hsteps⟩
theorem vx_callS (X : Stand p l e R s m args below meth c T locs cells slots) (hexec : p.tables.exec = Jvm.exec) {own : String} {index : Nat} {y : MethodName} {bytes : ByteArray} {maxL : Nat} {ret : Option FieldType}
    (hown : s.vm.findClass own = some m.cls) (hlink : (Cond.methodLink own index y).before args s = true) (hstat : (Cond.static y).before args s = true) (hinit : (Cond.initialized y.cls).before args s = true)
    (hcode : (Cond.code y bytes maxL ret).before args s = true) (hy : y.cls ≠ "java/lang/invoke/MethodHandle" ∧ y.cls ≠ "java/lang/invoke/VarHandle")
    {W9 : Nat} {Pre : Pt → Array Value → Prop} {Post : Pt → Array Value → Option Value → Pt → Prop} {PostX : Pt → Array Value → Addr → Pt → Prop} (hK : vx_Back l R p e below s args y 3 W9 Pre Post PostX)
    {g : JFrame} (hg : g.method = m) (hsize : g.locals.size = c.maxLocals) {argsL rest : List Value} (hlen : ∀ sig, parseMethodDescriptor y.desc = some sig → argsL.length = sig.parameters.length)
    (hstack : g.stack = argsL.reverse ++ rest) (hW : 2 * g.monitorRoom + (rest.map fun v => v.category).sum ≤ W9) (hdg : decode c.code g.pc = .ok (.invokestatic index, 3))
    (hpre : ∀ vm₁, s.WarmedH vm₁ → Pre ⟨T.setVm vm₁, locs, cells, slots⟩ argsL.toArray) :
    (∃ (v : Option Value) (vm₁ : Vm) (B : Pt), s.WarmedH vm₁ ∧ Stand p l e R s m args below meth c B.U B.locs B.cells B.slots ∧ Post ⟨T.setVm vm₁, locs, cells, slots⟩ argsL.toArray v B ∧
      ∀ target, Steps p.tables e below (B.U.setTop { g with pc := g.pc + 3, stack := v.toList ++ rest }) target → Steps p.tables e below (T.setTop g) target) ∨
    (∃ (q : Addr) (vm₁ : Vm) (B : Pt), s.WarmedH vm₁ ∧ Stand p l e R s m args below meth c B.U B.locs B.cells B.slots ∧ PostX ⟨T.setVm vm₁, locs, cells, slots⟩ argsL.toArray q B ∧
      Steps p.tables e below (T.setTop g) ((B.U.setTop { g with stack := rest }).pushFrame (.throwing q))) := by
  obtain ⟨mk, hnamed⟩ := Cond.code_named hcode
  obtain ⟨methM, cM, hmethM, -, -, -, -, -, -, hsigM⟩ := Cond.code_spec hnamed hcode
  have hstatic : methM.isStatic = true := Cond.static_spec hnamed hmethM hstat
  obtain ⟨kP, hkP, -⟩ := className_of_methodNamed hnamed
  have hinitP : kP.init = .initialized := Cond.initialized_spec (findClass_of_methodNamed hnamed) hkP hinit
  obtain ⟨vm₁, X₁, hstep₁⟩ := X.invokestatic hexec hown hlink hnamed hmethM hstatic hkP hinitP hy (g := g) hg (argsL := argsL) (rest := rest) (hlen _ hsigM) hstack hdg
  rcases hK m meth c ⟨T.setVm vm₁, locs, cells, slots⟩ { g with stack := rest } (.invokestatic index) mk argsL.toArray X₁ hg hsize hdg hW (X₁.named hnamed) (hpre vm₁ X₁.warmed) with ⟨v, B, X', hpost, hsteps⟩ | ⟨q, B, X', hpost, hsteps⟩
  · exact Or.inl ⟨v, vm₁, B, X₁.warmed, X', hpost, fun target h => hstep₁ _ fun acts => by rw [doInvoke_state]; exact hsteps.trans h⟩
  · exact Or.inr ⟨q, vm₁, B, X₁.warmed, X', hpost, hstep₁ _ fun acts => by rw [doInvoke_state]; exact hsteps⟩
end Calls
theorem vx_cls {s : State} {T : State} {vm₁ : Vm} {E : String} {k : ClassId} (hW : s.WarmedH vm₁) (h : (T.setVm vm₁).vm.findClass E = some k) : s.vm.findClass E = some k := by
  have h1 : vm₁.findClass E = some k := h
  rw [hW.alike.findClass] at h1
  exact h1
/-- the method's frame g, with q thrown over it -/
def vx_W (p : Program) (l : Launch) (e : Env) (R : Room) (s : State) (m : MethodId) (args : Array Value) (below : List Frame) (meth : Method) (c : Code) (H : Heap) (locs : List Loc) (cells slots : Nat) (Q : State → Prop) (g : JFrame) (q : Addr) : Prop :=
  ∀ T : State, T.heap = H → Stand p l e R s m args below meth c T locs cells slots → ∃ t, Steps p.tables e below ((T.setTop g).pushFrame (.throwing q)) t ∧ Q t
def vx_Run (p : Program) (l : Launch) (e : Env) (R : Room) (s : State) (m : MethodId) (args : Array Value) (below : List Frame) (meth : Method) (c : Code) (H : Heap) (locs : List Loc) (cells slots mc ms : Nat) (g : JFrame) (rest : List Value) (Qa : State → Outcome → State → Prop) (XC : String → State → State → Prop) (free : Addr → Prop) : Prop :=
  ∀ T : State, T.heap = H → Stand p l e R s m args below meth c T locs cells slots →
    (∃ (v : Option Value) (st₀ t T' : State) (L : List Loc), st₀.heap = H ∧ Stand p l e R s m args below meth c T' (locs ++ L) (cells + mc) (slots + ms) ∧ (∀ q ∈ L, free q.base) ∧ T'.heap = t.heap ∧ T'.vm = t.vm ∧ Qa st₀ (.returned v) t ∧
      Goes p e below T g T' { g with pc := g.pc + 3, stack := v.toList ++ rest }) ∨
    (∃ (q : Addr) (st₀ t T' : State) (L : List Loc) (E : String) (ce : Cell), st₀.heap = H ∧ Stand p l e R s m args below meth c T' (locs ++ L) (cells + mc) (slots + ms) ∧ (∀ z ∈ L, free z.base) ∧ T'.heap = t.heap ∧ T'.vm = t.vm ∧ XC E st₀ t ∧ t.heap[q]? = some ce ∧ ce.vm = .none ∧ s.vm.findClass E = some ce.cls ∧
      Steps p.tables e below (T.setTop g) ((T'.setTop { g with stack := rest }).pushFrame (.throwing q)))
def vx_X {S : Type} (px : S → Prop) (B : String → S → State → Prop) (A : Nat → Prop) : String → State → State → Prop := fun E st t => ∃ u : S, px u ∧ B E u t ∧ va_F A st t
section Runs
variable {p : Program} {l : Launch} {e : Env} {R : Room} {s : State} {m : MethodId} {args : Array Value} {below : List Frame} {meth : Method} {c : Code} {H : Heap} {locs : List Loc} {cells slots : Nat}
variable {y : MethodName} {bytes cc : ByteArray} {maxL nL mc ms n index : Nat} {ret : Option FieldType} {ws : List Cond} {rm : Room} {Pc : Array Value → State → Prop} {Qc : Array Value → State → Outcome → State → Prop} {XC : String → State → State → Prop} {free : Addr → Prop} {Ts : List Cond} {own C : String} {b : Addr} {As rest : List Value} {g : JFrame}
theorem vx_callBack (cb : CallB R s args own index y bytes maxL ret ws rm mc ms n) (hM : vx_Met l y ws rm Pc Qc XC mc ms free) (hbl : FrameBlind Pc) : vx_Back l R p e below s args y 3 8 (PreOf R mc ms Pc) (PostOf Qc mc ms free) (vx_Post XC mc ms free) := by
  obtain ⟨hrc, hrs, hfr, hlo, hws, hcw, -, hini, -⟩ := cb
  exact vx_back (bytes := bytes) (maxL := maxL) (ret := ret) hM hbl hrc hrs hfr hlo hws hcw (fun a' U hW => word_at hW (Or.inl (by first | rfl | simp [Cond.onTables, Cond.keeps, Cond.steady])) hini)
theorem vx_runV (S : CallFix p m c cc nL s args Ts own) (hM : vx_Met l y ws rm Pc Qc XC mc ms free) (cw : CallW R s args own C index y bytes maxL ret ws rm mc ms n) (hp : PreV s H C b Pc As)
    (hg : g.method = m) (hn : As.length = n) (hsize : g.locals.size = nL) (hstack : g.stack = As.reverse ++ .ref b :: rest) (hW : 2 * g.monitorRoom + (rest.map fun v => v.category).sum ≤ 8) (hdg : decode cc g.pc = .ok (.invokevirtual index, 3)) (hf : cells + mc ≤ R.cells ∧ slots + ms ≤ R.slots) :
    vx_Run p l e R s m args below meth c H locs cells slots mc ms g rest (Qc (Value.ref b :: As).toArray) XC free := by
  have hK : vx_Back l R p e below s args y 3 8 (PreOf R mc ms Pc) (PostOf Qc mc ms free) (vx_Post XC mc ms free) := vx_callBack cw.1 hM hp.1
  obtain ⟨⟨-, -, -, -, -, -, hcode, -, hy, hlen, hl⟩, hin, hse⟩ := cw
  obtain ⟨hx, hb, hml, ho, -⟩ := S
  obtain ⟨-, ⟨cellB, hcB, hoB, hclB⟩, hPc⟩ := hp
  intro T hT X
  rcases vx_callV X hx (C := C) (bytes := bytes) (maxL := maxL) (ret := ret) ho hl hin hse hcode hy hK (by rw [hT]; exact hcB) hoB hclB hg (hsize.trans hml.symm) (argsL := As) (rest := rest) (fun sig h => hn.trans (hlen sig h)) hstack hW (by rw [hb]; exact hdg)
    (fun vm₁ hW₁ => ⟨hf.1, hf.2, hPc (T.setVm vm₁) hT hW₁⟩) with ⟨v, vm₁, ⟨U', l2, c2, s2⟩, hW₁, X', ⟨g', mk, t, L, e1, e2, hq, h1, hL, h2, h3⟩, st⟩ | ⟨q, vm₁, ⟨U', l2, c2, s2⟩, hW₁, X', ⟨g', mk, t, L, E, ce, e1, e2, hq, hce, hcv, hcl, h1, hL, h2, h3⟩, st⟩
  · dsimp only [Pt.U, Pt.locs, Pt.cells, Pt.slots] at X' e1 e2 h1 h2 h3 st
    subst h1; subst h2; subst h3
    exact Or.inl ⟨v, (T.setVm vm₁).calling g' mk (Value.ref b :: As).toArray, t, U', L, hT, X', hL, e1, e2, hq, st⟩
  · dsimp only [Pt.U, Pt.locs, Pt.cells, Pt.slots] at X' e1 e2 h1 h2 h3 st hcl
    subst h1; subst h2; subst h3
    exact Or.inr ⟨q, (T.setVm vm₁).calling g' mk (Value.ref b :: As).toArray, t, U', L, E, ce, hT, X', hL, e1, e2, hq, hce, hcv, vx_cls hW₁ hcl, st⟩
theorem vx_runS (S : CallFix p m c cc nL s args Ts own) (hM : vx_Met l y ws rm Pc Qc XC mc ms free) (cw : CallB R s args own index y bytes maxL ret ws rm mc ms n ∧ (Cond.static y).before args s = true) (hp : PreS s H Pc As)
    (hg : g.method = m) (hn : As.length = n) (hsize : g.locals.size = nL) (hstack : g.stack = As.reverse ++ rest) (hW : 2 * g.monitorRoom + (rest.map fun v => v.category).sum ≤ 8) (hdg : decode cc g.pc = .ok (.invokestatic index, 3)) (hf : cells + mc ≤ R.cells ∧ slots + ms ≤ R.slots) :
    vx_Run p l e R s m args below meth c H locs cells slots mc ms g rest (Qc As.toArray) XC free := by
  have hK : vx_Back l R p e below s args y 3 8 (PreOf R mc ms Pc) (PostOf Qc mc ms free) (vx_Post XC mc ms free) := vx_callBack cw.1 hM hp.1
  obtain ⟨⟨-, -, -, -, -, -, hcode, hini, hy, hlen, hl⟩, hstt⟩ := cw
  obtain ⟨hx, hb, hml, ho, -⟩ := S
  intro T hT X
  rcases vx_callS X hx (bytes := bytes) (maxL := maxL) (ret := ret) ho hl hstt hini hcode hy hK hg (hsize.trans hml.symm) (argsL := As) (rest := rest) (fun sig h => hn.trans (hlen sig h)) hstack hW (by rw [hb]; exact hdg)
    (fun vm₁ hW₁ => ⟨hf.1, hf.2, hp.2 (T.setVm vm₁) hT hW₁⟩) with ⟨v, vm₁, ⟨U', l2, c2, s2⟩, hW₁, X', ⟨g', mk, t, L, e1, e2, hq, h1, hL, h2, h3⟩, st⟩ | ⟨q, vm₁, ⟨U', l2, c2, s2⟩, hW₁, X', ⟨g', mk, t, L, E, ce, e1, e2, hq, hce, hcv, hcl, h1, hL, h2, h3⟩, st⟩
  · dsimp only [Pt.U, Pt.locs, Pt.cells, Pt.slots] at X' e1 e2 h1 h2 h3 st
    subst h1; subst h2; subst h3
    exact Or.inl ⟨v, (T.setVm vm₁).calling g' mk As.toArray, t, U', L, hT, X', hL, e1, e2, hq, st⟩
  · dsimp only [Pt.U, Pt.locs, Pt.cells, Pt.slots] at X' e1 e2 h1 h2 h3 st hcl
    subst h1; subst h2; subst h3
    exact Or.inr ⟨q, (T.setVm vm₁).calling g' mk As.toArray, t, U', L, E, ce, hT, X', hL, e1, e2, hq, hce, hcv, vx_cls hW₁ hcl, st⟩
end Runs
section Rows
variable {p : Program} {l : Launch} {e : Env} {R : Room} {s : State} {m : MethodId} {args : Array Value} {below : List Frame} {meth : Method} {c : Code} {H : Heap} {locs : List Loc} {cells slots : Nat} {Q : State → Prop}
variable {mc ms : Nat} {free : Addr → Prop} {A0 A1 : Nat → Prop} {H0 : Heap} {a : Array Value} {pc : Nat} {ls : Array Slot} {st0 rest : List Value}
theorem vx_keep {st₀ t T' : State} {L : List Loc} (h0 : st₀.heap = H) (e1 : T'.heap = t.heap) (hS : va_S A0 H0 H locs) (hA : ∀ q, q < H.size → A1 q → A0 q) (hf : ∀ q, free q → A0 q) (hL : ∀ q ∈ L, free q.base) (hF : va_F A1 st₀ t) :
    H.size ≤ T'.heap.size ∧ (∀ q : Nat, q < H.size → ¬ A1 q → T'.heap[q]? = H[q]?) ∧ va_S A0 H0 T'.heap (locs ++ L) := by
  obtain ⟨hz, hk⟩ := hF
  rw [h0] at hz hk
  exact ⟨by rw [e1]; exact hz, fun q h1 h2 => by rw [e1]; exact hk q h1 h2,
    ⟨Nat.le_trans hS.1 (by rw [e1]; exact hz), fun q h1 h2 => by rw [e1, hk q (Nat.lt_of_lt_of_le h1 hS.1) (fun z => h2 (hA q (Nat.lt_of_lt_of_le h1 hS.1) z))]; exact hS.2.1 q h1 h2, fun q hq => by
      rcases List.mem_append.mp hq with h | h
      · exact hS.2.2 q h
      · exact hf _ (hL q h)⟩⟩
theorem vx_calli {S SX : Type} {post : Int32 → S → Prop} {px : SX → Prop} {B : S → State → Prop} {BX : String → SX → State → Prop} {AX : Nat → Prop} (hr : vx_Run p l e R s m args below meth c H locs cells slots mc ms (F0 m pc ls st0) rest (va_Qi post B A1 a) (vx_X px BX AX) free) (hS : va_S A0 H0 H locs) (hA : ∀ q, q < H.size → A1 q → A0 q) (hf : ∀ q, free q → A0 q) (hAX : ∀ q, q < H.size → AX q → A0 q)
    (kx : ∀ (E : String) (ce : Cell) (q9 : Addr) (u : SX) (t : State) (H1 : Heap) (locs1 : List Loc), t.heap = H1 → s.vm.Alike t.vm → px u → BX E u t → H.size ≤ H1.size → (∀ q : Nat, q < H.size → ¬ AX q → H1[q]? = H[q]?) → va_S A0 H0 H1 locs1 → H1[q9]? = some ce → ce.vm = .none → s.vm.findClass E = some ce.cls → vx_W p l e R s m args below meth c H1 locs1 (cells + mc) (slots + ms) Q (F0 m pc ls rest) q9)
    (kk : ∀ (r : Int32) (u : S) (t : State) (H1 : Heap) (locs1 : List Loc), t.heap = H1 → s.vm.Alike t.vm → post r u → B u t → H.size ≤ H1.size → (∀ q : Nat, q < H.size → ¬ A1 q → H1[q]? = H[q]?) → va_S A0 H0 H1 locs1 → W p l e R s m args below meth c H1 locs1 (cells + mc) (slots + ms) Q (F0 m (pc + 3) ls (.int r :: rest))) : W p l e R s m args below meth c H locs cells slots Q (F0 m pc ls st0) := by
  intro T hT X
  rcases hr T hT X with ⟨v, st₀, t, T', L, h0, X', hL, e1, e2, ⟨⟨r, u, hv, hp, hb⟩, hF⟩, st⟩ | ⟨q, st₀, t, T', L, E, ce, h0, X', hL, e1, e2, ⟨u, hp, hb, hF⟩, hce, hcv, hcl, st⟩
  · cases hv
    obtain ⟨k1, k2, k3⟩ := vx_keep h0 e1 hS hA hf hL hF
    obtain ⟨t2, a1, b1⟩ := kk r u t T'.heap (locs ++ L) e1.symm (by rw [← e2]; exact X'.warmed.alike) hp hb k1 k2 k3 T' rfl X'
    exact ⟨t2, st t2 a1, b1⟩
  · obtain ⟨k1, k2, k3⟩ := vx_keep h0 e1 hS hAX hf hL hF
    obtain ⟨t2, a1, b1⟩ := kx E ce q u t T'.heap (locs ++ L) e1.symm (by rw [← e2]; exact X'.warmed.alike) hp hb k1 k2 k3 (by rw [e1]; exact hce) hcv hcl T' rfl X'
    exact ⟨t2, st.trans a1, b1⟩
theorem vx_calll {S SX : Type} {post : Int64 → S → Prop} {px : SX → Prop} {B : S → State → Prop} {BX : String → SX → State → Prop} {AX : Nat → Prop} (hr : vx_Run p l e R s m args below meth c H locs cells slots mc ms (F0 m pc ls st0) rest (va_Ql post B A1 a) (vx_X px BX AX) free) (hS : va_S A0 H0 H locs) (hA : ∀ q, q < H.size → A1 q → A0 q) (hf : ∀ q, free q → A0 q) (hAX : ∀ q, q < H.size → AX q → A0 q)
    (kx : ∀ (E : String) (ce : Cell) (q9 : Addr) (u : SX) (t : State) (H1 : Heap) (locs1 : List Loc), t.heap = H1 → s.vm.Alike t.vm → px u → BX E u t → H.size ≤ H1.size → (∀ q : Nat, q < H.size → ¬ AX q → H1[q]? = H[q]?) → va_S A0 H0 H1 locs1 → H1[q9]? = some ce → ce.vm = .none → s.vm.findClass E = some ce.cls → vx_W p l e R s m args below meth c H1 locs1 (cells + mc) (slots + ms) Q (F0 m pc ls rest) q9)
    (kk : ∀ (r : Int64) (u : S) (t : State) (H1 : Heap) (locs1 : List Loc), t.heap = H1 → s.vm.Alike t.vm → post r u → B u t → H.size ≤ H1.size → (∀ q : Nat, q < H.size → ¬ A1 q → H1[q]? = H[q]?) → va_S A0 H0 H1 locs1 → W p l e R s m args below meth c H1 locs1 (cells + mc) (slots + ms) Q (F0 m (pc + 3) ls (.long r :: rest))) : W p l e R s m args below meth c H locs cells slots Q (F0 m pc ls st0) := by
  intro T hT X
  rcases hr T hT X with ⟨v, st₀, t, T', L, h0, X', hL, e1, e2, ⟨⟨r, u, hv, hp, hb⟩, hF⟩, st⟩ | ⟨q, st₀, t, T', L, E, ce, h0, X', hL, e1, e2, ⟨u, hp, hb, hF⟩, hce, hcv, hcl, st⟩
  · cases hv
    obtain ⟨k1, k2, k3⟩ := vx_keep h0 e1 hS hA hf hL hF
    obtain ⟨t2, a1, b1⟩ := kk r u t T'.heap (locs ++ L) e1.symm (by rw [← e2]; exact X'.warmed.alike) hp hb k1 k2 k3 T' rfl X'
    exact ⟨t2, st t2 a1, b1⟩
  · obtain ⟨k1, k2, k3⟩ := vx_keep h0 e1 hS hAX hf hL hF
    obtain ⟨t2, a1, b1⟩ := kx E ce q u t T'.heap (locs ++ L) e1.symm (by rw [← e2]; exact X'.warmed.alike) hp hb k1 k2 k3 (by rw [e1]; exact hce) hcv hcl T' rfl X'
    exact ⟨t2, st.trans a1, b1⟩
theorem vx_callf {S SX : Type} {post : UInt32 → S → Prop} {px : SX → Prop} {B : S → State → Prop} {BX : String → SX → State → Prop} {AX : Nat → Prop} (hr : vx_Run p l e R s m args below meth c H locs cells slots mc ms (F0 m pc ls st0) rest (va_Qf post B A1 a) (vx_X px BX AX) free) (hS : va_S A0 H0 H locs) (hA : ∀ q, q < H.size → A1 q → A0 q) (hf : ∀ q, free q → A0 q) (hAX : ∀ q, q < H.size → AX q → A0 q)
    (kx : ∀ (E : String) (ce : Cell) (q9 : Addr) (u : SX) (t : State) (H1 : Heap) (locs1 : List Loc), t.heap = H1 → s.vm.Alike t.vm → px u → BX E u t → H.size ≤ H1.size → (∀ q : Nat, q < H.size → ¬ AX q → H1[q]? = H[q]?) → va_S A0 H0 H1 locs1 → H1[q9]? = some ce → ce.vm = .none → s.vm.findClass E = some ce.cls → vx_W p l e R s m args below meth c H1 locs1 (cells + mc) (slots + ms) Q (F0 m pc ls rest) q9)
    (kk : ∀ (r : UInt32) (u : S) (t : State) (H1 : Heap) (locs1 : List Loc), t.heap = H1 → s.vm.Alike t.vm → post r u → B u t → H.size ≤ H1.size → (∀ q : Nat, q < H.size → ¬ A1 q → H1[q]? = H[q]?) → va_S A0 H0 H1 locs1 → W p l e R s m args below meth c H1 locs1 (cells + mc) (slots + ms) Q (F0 m (pc + 3) ls (.float r :: rest))) : W p l e R s m args below meth c H locs cells slots Q (F0 m pc ls st0) := by
  intro T hT X
  rcases hr T hT X with ⟨v, st₀, t, T', L, h0, X', hL, e1, e2, ⟨⟨r, u, hv, hp, hb⟩, hF⟩, st⟩ | ⟨q, st₀, t, T', L, E, ce, h0, X', hL, e1, e2, ⟨u, hp, hb, hF⟩, hce, hcv, hcl, st⟩
  · cases hv
    obtain ⟨k1, k2, k3⟩ := vx_keep h0 e1 hS hA hf hL hF
    obtain ⟨t2, a1, b1⟩ := kk r u t T'.heap (locs ++ L) e1.symm (by rw [← e2]; exact X'.warmed.alike) hp hb k1 k2 k3 T' rfl X'
    exact ⟨t2, st t2 a1, b1⟩
  · obtain ⟨k1, k2, k3⟩ := vx_keep h0 e1 hS hAX hf hL hF
    obtain ⟨t2, a1, b1⟩ := kx E ce q u t T'.heap (locs ++ L) e1.symm (by rw [← e2]; exact X'.warmed.alike) hp hb k1 k2 k3 (by rw [e1]; exact hce) hcv hcl T' rfl X'
    exact ⟨t2, st.trans a1, b1⟩
theorem vx_calld {S SX : Type} {post : UInt64 → S → Prop} {px : SX → Prop} {B : S → State → Prop} {BX : String → SX → State → Prop} {AX : Nat → Prop} (hr : vx_Run p l e R s m args below meth c H locs cells slots mc ms (F0 m pc ls st0) rest (va_Qd post B A1 a) (vx_X px BX AX) free) (hS : va_S A0 H0 H locs) (hA : ∀ q, q < H.size → A1 q → A0 q) (hf : ∀ q, free q → A0 q) (hAX : ∀ q, q < H.size → AX q → A0 q)
    (kx : ∀ (E : String) (ce : Cell) (q9 : Addr) (u : SX) (t : State) (H1 : Heap) (locs1 : List Loc), t.heap = H1 → s.vm.Alike t.vm → px u → BX E u t → H.size ≤ H1.size → (∀ q : Nat, q < H.size → ¬ AX q → H1[q]? = H[q]?) → va_S A0 H0 H1 locs1 → H1[q9]? = some ce → ce.vm = .none → s.vm.findClass E = some ce.cls → vx_W p l e R s m args below meth c H1 locs1 (cells + mc) (slots + ms) Q (F0 m pc ls rest) q9)
    (kk : ∀ (r : UInt64) (u : S) (t : State) (H1 : Heap) (locs1 : List Loc), t.heap = H1 → s.vm.Alike t.vm → post r u → B u t → H.size ≤ H1.size → (∀ q : Nat, q < H.size → ¬ A1 q → H1[q]? = H[q]?) → va_S A0 H0 H1 locs1 → W p l e R s m args below meth c H1 locs1 (cells + mc) (slots + ms) Q (F0 m (pc + 3) ls (.double r :: rest))) : W p l e R s m args below meth c H locs cells slots Q (F0 m pc ls st0) := by
  intro T hT X
  rcases hr T hT X with ⟨v, st₀, t, T', L, h0, X', hL, e1, e2, ⟨⟨r, u, hv, hp, hb⟩, hF⟩, st⟩ | ⟨q, st₀, t, T', L, E, ce, h0, X', hL, e1, e2, ⟨u, hp, hb, hF⟩, hce, hcv, hcl, st⟩
  · cases hv
    obtain ⟨k1, k2, k3⟩ := vx_keep h0 e1 hS hA hf hL hF
    obtain ⟨t2, a1, b1⟩ := kk r u t T'.heap (locs ++ L) e1.symm (by rw [← e2]; exact X'.warmed.alike) hp hb k1 k2 k3 T' rfl X'
    exact ⟨t2, st t2 a1, b1⟩
  · obtain ⟨k1, k2, k3⟩ := vx_keep h0 e1 hS hAX hf hL hF
    obtain ⟨t2, a1, b1⟩ := kx E ce q u t T'.heap (locs ++ L) e1.symm (by rw [← e2]; exact X'.warmed.alike) hp hb k1 k2 k3 (by rw [e1]; exact hce) hcv hcl T' rfl X'
    exact ⟨t2, st.trans a1, b1⟩
theorem vx_callv {S SX : Type} {post : S → Prop} {px : SX → Prop} {B : S → State → Prop} {BX : String → SX → State → Prop} {AX : Nat → Prop} (hr : vx_Run p l e R s m args below meth c H locs cells slots mc ms (F0 m pc ls st0) rest (va_Qv post B A1 a) (vx_X px BX AX) free) (hS : va_S A0 H0 H locs) (hA : ∀ q, q < H.size → A1 q → A0 q) (hf : ∀ q, free q → A0 q) (hAX : ∀ q, q < H.size → AX q → A0 q)
    (kx : ∀ (E : String) (ce : Cell) (q9 : Addr) (u : SX) (t : State) (H1 : Heap) (locs1 : List Loc), t.heap = H1 → s.vm.Alike t.vm → px u → BX E u t → H.size ≤ H1.size → (∀ q : Nat, q < H.size → ¬ AX q → H1[q]? = H[q]?) → va_S A0 H0 H1 locs1 → H1[q9]? = some ce → ce.vm = .none → s.vm.findClass E = some ce.cls → vx_W p l e R s m args below meth c H1 locs1 (cells + mc) (slots + ms) Q (F0 m pc ls rest) q9)
    (kk : ∀ (u : S) (t : State) (H1 : Heap) (locs1 : List Loc), t.heap = H1 → s.vm.Alike t.vm → post u → B u t → H.size ≤ H1.size → (∀ q : Nat, q < H.size → ¬ A1 q → H1[q]? = H[q]?) → va_S A0 H0 H1 locs1 → W p l e R s m args below meth c H1 locs1 (cells + mc) (slots + ms) Q (F0 m (pc + 3) ls (rest))) : W p l e R s m args below meth c H locs cells slots Q (F0 m pc ls st0) := by
  intro T hT X
  rcases hr T hT X with ⟨v, st₀, t, T', L, h0, X', hL, e1, e2, ⟨⟨u, hv, hp, hb⟩, hF⟩, st⟩ | ⟨q, st₀, t, T', L, E, ce, h0, X', hL, e1, e2, ⟨u, hp, hb, hF⟩, hce, hcv, hcl, st⟩
  · cases hv
    obtain ⟨k1, k2, k3⟩ := vx_keep h0 e1 hS hA hf hL hF
    obtain ⟨t2, a1, b1⟩ := kk u t T'.heap (locs ++ L) e1.symm (by rw [← e2]; exact X'.warmed.alike) hp hb k1 k2 k3 T' rfl X'
    exact ⟨t2, st t2 a1, b1⟩
  · obtain ⟨k1, k2, k3⟩ := vx_keep h0 e1 hS hAX hf hL hF
    obtain ⟨t2, a1, b1⟩ := kx E ce q u t T'.heap (locs ++ L) e1.symm (by rw [← e2]; exact X'.warmed.alike) hp hb k1 k2 k3 (by rw [e1]; exact hce) hcv hcl T' rfl X'
    exact ⟨t2, st.trans a1, b1⟩
/-- caught by the row x of this method's table; the rows ahead don't take it -/
theorem vx_catch {own name : String} {E : String} {ce : Cell} {q : Addr} (hown : s.vm.findClass own = some m.cls) (pre : List ExceptionTableEntry) (x : ExceptionTableEntry) (suf : List ExceptionTableEntry) (hsplit : c.exceptionTable.toList = pre ++ x :: suf)
    (hpass : ∀ z ∈ pre, covers z pc = false ∨ (z.catchType ≠ 0 ∧ ∃ nm : String, (Cond.classLink own z.catchType nm).before args s = true ∧ va_Nc E nm s)) (hx : covers x pc = true) (h0 : x.catchType ≠ 0)
    (hlink : (Cond.classLink own x.catchType name).before args s = true) (hcast : (Cond.castable E name).before args s = true) (hcell : H[q]? = some ce) (hv : ce.vm = .none) (hcl : s.vm.findClass E = some ce.cls)
    (kk : W p l e R s m args below meth c H locs cells slots Q (F0 m x.handlerPc ls [.ref q])) : vx_W p l e R s m args below meth c H locs cells slots Q (F0 m pc ls rest) q := by
  intro T hT X
  have hpl : e.platform.magicAccessors = ({} : Platform).magicAccessors := by rw [X.admits.platform]
  obtain ⟨c3, c4, hc3, hc4, hasg⟩ := Cond.castable_spec hcast
  cases Option.some.inj (hc3.symm.trans hcl)
  obtain ⟨c5, hc5, hcl5⟩ := Cond.classLink_spec hown hlink e.platform hpl
  cases Option.some.inj (hc4.symm.trans hc5)
  obtain ⟨vm', X', st⟩ := X.thenCaughtThrough q (g := F0 m pc ls rest) rfl (Steps.refl _) (by rw [hT]; exact hcell) (by rw [hv]; rfl) (by obtain ⟨k9, h9, -⟩ := Vm.findClass_spec hcl; exact ⟨k9, h9⟩) pre x suf hsplit
    (fun z hz => by
      rcases hpass z hz with h | ⟨hz0, nm, hl1, hn1⟩
      · exact Or.inl h
      · obtain ⟨c6, hc6, hcl6⟩ := Cond.classLink_spec hown hl1 e.platform hpl
        obtain ⟨a8, b8, h1, h2, h3⟩ := hn1
        cases Option.some.inj (h1.symm.trans hcl)
        cases Option.some.inj (h2.symm.trans hc6)
        exact Or.inr ⟨hz0, _, hcl6, h3⟩) hx (Or.inr ⟨h0, c4, hcl5, hasg⟩)
  obtain ⟨t, a1, b1⟩ := kk (T.setVm vm') hT X'
  exact ⟨t, st.trans a1, b1⟩
end Rows
section Ends
variable {p : Program} {l : Launch} {e : Env} {R : Room} {s : State} {m : MethodId} {args : Array Value} {below : List Frame} {meth : Method} {c : Code} {H : Heap} {locs : List Loc} {cells slots : Nat} {Q : State → Prop}
variable {mc ms : Nat} {free : Addr → Prop} {A0 A1 : Nat → Prop} {H0 : Heap} {a : Array Value} {ls : Array Slot} {st0 rest : List Value}
variable {Qc : Array Value → State → Outcome → State → Prop} {XC : String → State → State → Prop}
/-- what a body that may throw owes at its end -/
def vx_MQ (below : List Frame) (Qc : Array Value → State → Outcome → State → Prop) (XC : String → State → State → Prop) (a : Array Value) (s : State) (mc ms : Nat) (free : Addr → Prop) : State → Prop := fun t =>
  ∃ o, t.status = .running ∧ Ended t below o ∧ vx_Q Qc XC mc ms free a s o t
theorem vx_ret {g : JFrame} {mc ms : Nat} (k : W p l e R s m args below meth c H locs cells slots (MQ below Qc args s mc ms free) g) : W p l e R s m args below meth c H locs cells slots (vx_MQ below Qc XC args s mc ms free) g := by
  intro T hT X
  obtain ⟨t, a1, o, b1, b2, b3, b4⟩ := k T hT X
  exact ⟨t, a1, o, b1, b2, Or.inl ⟨b3, b4⟩⟩
/-- not caught here: it goes on to the caller -/
theorem vx_widen {g : JFrame} {q : Addr} {k n : Nat} (h1 : cells ≤ k) (h2 : slots ≤ n) (kk : vx_W p l e R s m args below meth c H locs k n Q g q) : vx_W p l e R s m args below meth c H locs cells slots Q g q := fun T hT X => kk T hT (stand_widen X h1 h2)
theorem vx_out {pc : Nat} {E : String} {ce : Cell} {q : Addr} {mc ms : Nat} (hout : ∀ x ∈ c.exceptionTable.toList, covers x pc = false) (hlocks : meth.locks = false) (hcell : H[q]? = some ce) (hv : ce.vm = .none) (hcl : s.vm.findClass E = some ce.cls)
    (hx : ∀ t : State, t.heap = H → s.vm.Alike t.vm → XC E s t) (hf : ∀ z ∈ locs, free z.base) (hc : cells ≤ mc) (hs : slots ≤ ms) :
    vx_W p l e R s m args below meth c H locs cells slots (vx_MQ below Qc XC args s mc ms free) (F0 m pc ls rest) q := by
  intro T hT X
  obtain ⟨st1, hrun, hend, hW, hsm⟩ := X.leaveThrown q (g := F0 m pc ls rest) rfl rfl rfl hout hlocks
  have hcell9 : (T.setFrames (.throwing q :: below)).heap[q]? = some ce := by
    show T.heap[q]? = some ce
    rw [hT]; exact hcell
  exact ⟨_, st1, .threw q, hrun, hend, Or.inr ⟨q, rfl, E, ce, locs, hx _ hT hW.alike, hcell9, hv, hcl, hW, hsm.mono hc hs, hf⟩⟩
theorem vx_frame {U : State} {k n : Nat} (h : s.sameButNew ({ U with vm := s.vm } : State) locs k n) : s.heap.size ≤ U.heap.size ∧ ∀ q : Nat, q < s.heap.size → (∀ z ∈ locs, z.base ≠ q) → U.heap[q]? = s.heap[q]? := by
  obtain ⟨-, h2, -, -, -, h6⟩ := h
  refine ⟨h2, fun q hq hz => ?_⟩
  obtain ⟨c9, e1, e2, e3, e4⟩ := h6 q _ (Array.getElem?_eq_getElem hq)
  have hs : c9.slots = (s.heap[q]).slots := Array.ext_getElem? fun i => e4 i fun hm => hz _ hm rfl
  have h9 : c9 = s.heap[q] := by
    rw [hs] at e2
    exact e2
  have e5 : U.heap[q]? = some c9 := e1
  rw [e5, h9, Array.getElem?_eq_getElem hq]
/-- the words of a throw but the four that speak of the heap -/
def vx_no (w : Cond) : Bool := decide (w ≠ .isRef (.static Bundle.tN "UNASSIGNED_STACK" Bundle.steD)) && decide (w ≠ .isRef (.static Bundle.tN "SUPPRESSED_SENTINEL" Bundle.listD)) && decide (w ≠ .laysStatic Bundle.tN "UNASSIGNED_STACK" Bundle.steD) && decide (w ≠ .laysStatic Bundle.tN "SUPPRESSED_SENTINEL" Bundle.listD)
def vx_at0 (own : String) (ic : Nat) (X : String) (names : List String) : List Cond := (Bundle.ownAtoms0 own ic X names).filter vx_no
def vx_atS (own : String) (ic : Nat) (X : String) (names : List String) : List Cond := (Bundle.ownAtoms own ic X names).filter vx_no
/-- a word that the tables alone decide, or a good one -/
def vx_ot (w : Cond) : Bool := w.onTables || goodWord w
theorem vx_ot_at {args a' : Array Value} {s U : State} {w : Cond} (hW : s.WarmedH U.vm) (hvm : s.vm = U.vm) (hg : vx_ot w = true) (h : w.before args s = true) : w.before a' U = true := by
  simp only [vx_ot, Bool.or_eq_true] at hg
  rcases hg with hg | hg
  · exact va_tabs hg hvm h
  · exact word_at hW (good_of_word hg) h
/-- a list's words: the good ones out of the method's own list, the others by premises of their own -/
theorem vx_hat {args : Array Value} {s : State} {L B : List Cond} (h1 : ∀ w ∈ L.filter goodWord, w.before args s = true) (h2 : ∀ w ∈ L.filter (fun w => !goodWord w), w ∈ B) (h3 : ∀ w ∈ B, w.before args s = true) : ∀ w ∈ L, w.before args s = true := by
  intro w hw
  by_cases g : goodWord w = true
  · exact h1 w (List.mem_filter.mpr ⟨hw, g⟩)
  · refine h3 w (h2 w (List.mem_filter.mpr ⟨hw, ?_⟩))
    show (!goodWord w) = true
    cases hgw : goodWord w
    · rfl
    · exact absurd hgw g
theorem vx_c {args : Array Value} {s : State} {w : Cond} {B : List Cond} (h : w.before args s = true) (t : ∀ w ∈ B, w.before args s = true) : ∀ w' ∈ w :: B, w'.before args s = true := fun w' h' => (List.mem_cons.mp h').elim (fun e => by rw [e]; exact h) (t w')
theorem vx_n {args : Array Value} {s : State} : ∀ w ∈ ([] : List Cond), w.before args s = true := fun _ h => nomatch h
theorem vx_own {args : Array Value} {s : State} {L : List Cond} (h1 : ∀ w ∈ L.filter vx_no, w.before args s = true)
    (hU : (Cond.isRef (.static Bundle.tN "UNASSIGNED_STACK" Bundle.steD)).before args s = true) (hN : (Cond.isRef (.static Bundle.tN "SUPPRESSED_SENTINEL" Bundle.listD)).before args s = true)
    (lU : (Cond.laysStatic Bundle.tN "UNASSIGNED_STACK" Bundle.steD).before args s = true) (lN : (Cond.laysStatic Bundle.tN "SUPPRESSED_SENTINEL" Bundle.listD).before args s = true) : ∀ w ∈ L, w.before args s = true := by
  intro w hw
  by_cases e1 : w = .isRef (.static Bundle.tN "UNASSIGNED_STACK" Bundle.steD)
  · rw [e1]; exact hU
  · by_cases e2 : w = .isRef (.static Bundle.tN "SUPPRESSED_SENTINEL" Bundle.listD)
    · rw [e2]; exact hN
    · by_cases e3 : w = .laysStatic Bundle.tN "UNASSIGNED_STACK" Bundle.steD
      · rw [e3]; exact lU
      · by_cases e4 : w = .laysStatic Bundle.tN "SUPPRESSED_SENTINEL" Bundle.listD
        · rw [e4]; exact lN
        · exact h1 w (List.mem_filter.mpr ⟨hw, by unfold vx_no; rw [decide_eq_true e1, decide_eq_true e2, decide_eq_true e3, decide_eq_true e4]; rfl⟩)
/-- where a static field lies, its class's statics cell in H -/
def vx_L (C n d : String) (A : Nat → Prop) (U : State) (H : Heap) : Prop := ∃ (c : ClassId) (k : Class) (i : Nat) (f : Field) (a : Nat) (cell : Cell), U.vm.findClass C = some c ∧ U.fieldFound? C n d = some (c, k, i, f) ∧ f.isStatic = true ∧ k.statics = some a ∧ H[a]? = some cell ∧ cell.vm.isStatics = true ∧ cell.cls = c ∧ f.slot < cell.slots.size ∧ k.staticTypes[f.slot]? = some f.type ∧ ¬ A a
theorem vx_L.moved {C n d : String} {A : Nat → Prop} {u U : State} {H : Heap} (hvm : u.vm.Alike U.vm) (h : vx_L C n d A u H) : vx_L C n d A U H := by
  obtain ⟨c, k, i, f, a, cell, h1, h2, h3, h4, h5, h6, h7, h8, h9, h10⟩ := h
  obtain ⟨k', hi', he⟩ := State.fieldFound?_setVm hvm h2
  exact ⟨c, k', i, f, a, cell, by rw [hvm.findClass]; exact h1, hi', h3, by rw [he]; exact h4, h5, h6, h7, h8, by rw [he]; exact h9, h10⟩
theorem vx_L.kept {C n d : String} {A : Nat → Prop} {U : State} {H H1 : Heap} (h : vx_L C n d A U H) (hq : ∀ a : Nat, a < H.size → ¬ A a → H1[a]? = H[a]?) : vx_L C n d A U H1 := by
  obtain ⟨c, k, i, f, a, cell, h1, h2, h3, h4, h5, h6, h7, h8, h9, h10⟩ := h
  exact ⟨c, k, i, f, a, cell, h1, h2, h3, h4, by rw [hq a (Array.getElem?_eq_some_iff.mp h5).1 h10]; exact h5, h6, h7, h8, h9, h10⟩
theorem vx_L.narrow {C n d : String} {A B : Nat → Prop} {U : State} {H : Heap} (h : vx_L C n d A U H) (hAB : ∀ q, B q → A q) : vx_L C n d B U H := by
  obtain ⟨c, k, i, f, a, cell, h1, h2, h3, h4, h5, h6, h7, h8, h9, h10⟩ := h
  exact ⟨c, k, i, f, a, cell, h1, h2, h3, h4, h5, h6, h7, h8, h9, fun z => h10 (hAB _ z)⟩
theorem vx_L.word {C n d : String} {A : Nat → Prop} {s : State} {args : Array Value} (h : vx_L C n d A s s.heap) : (Cond.laysStatic C n d).before args s = true := by
  obtain ⟨c, k, i, f, a, cell, h1, h2, h3, h4, h5, h6, h7, h8, h9, -⟩ := h
  show (Cond.laysStatic C n d).holds args s none s [] = true
  exact Cond.laysStatic_of h1 h2 h3 h4 h5 h6 h7 h8 h9
/-- .. and what it holds: null or some reference -/
def vx_Zq (C n d : String) (A : Nat → Prop) (U : State) (H : Heap) : Prop := va_Zq C n d A U H ∧ vx_L C n d A U H
theorem vx_Zq.moved {C n d : String} {A : Nat → Prop} {u U : State} {H : Heap} (hvm : u.vm.Alike U.vm) (h : vx_Zq C n d A u H) : vx_Zq C n d A U H := ⟨va_Zq.moved hvm h.1, vx_L.moved hvm h.2⟩
theorem vx_Zq.kept {C n d : String} {A : Nat → Prop} {U : State} {H H1 : Heap} (h : vx_Zq C n d A U H) (hq : ∀ a : Nat, a < H.size → ¬ A a → H1[a]? = H[a]?) : vx_Zq C n d A U H1 := ⟨va_Zq.kept h.1 hq, vx_L.kept h.2 hq⟩
theorem vx_Zq.narrow {C n d : String} {A B : Nat → Prop} {U : State} {H : Heap} (h : vx_Zq C n d A U H) (hAB : ∀ q, B q → A q) : vx_Zq C n d B U H := ⟨va_Zq.narrow h.1 hAB, vx_L.narrow h.2 hAB⟩
theorem vx_Zqof {args : Array Value} {s : State} {C n d : String} {A : Nat → Prop} (hl : (Cond.laysStatic C n d).before args s = true) (hini : (Cond.initialized C).before args s = true) (h : (Cond.isRef (.static C n d)).before args s = true) (hA : ∀ a : Nat, a < s.heap.size → ¬ A a) : vx_Zq C n d A s s.heap := by
  refine ⟨va_Zqof hl hini h hA, ?_⟩
  obtain ⟨c, k, i, f, a, cell, h1, h2, h3, h4, h5, h6, h7, h8, h9⟩ := Cond.laysStatic_spec hl
  exact ⟨c, k, i, f, a, cell, h1, h2, h3, h4, h5, h6, h7, h8, h9, hA a (Array.getElem?_eq_some_iff.mp h5).1⟩
theorem vx_isRef {C n d : String} {v : Value} {A : Nat → Prop} {s : State} {args : Array Value} (h : va_Z C n d v A s s.heap) (hv : v.isRef = true) : (Cond.isRef (.static C n d)).before args s = true := by
  obtain ⟨cf, kf, fi, f, a, cell, h1, h2, h3, h4, h5, h6, h7, -⟩ := h
  have he : (Term.static C n d).eval args s none [] s = some v := by
    simp [Term.eval, State.fieldNamed?, h1, h2, h4, h5, h6, h7]
  simp only [Cond.before, Cond.holds, Cond.value, he]
  cases v <;> simp_all [Value.isRef]
theorem vx_isRefq {C n d : String} {A : Nat → Prop} {s : State} {args : Array Value} (h : va_Zq C n d A s s.heap) : (Cond.isRef (.static C n d)).before args s = true := by
  rcases h with h | ⟨t, h⟩
  · exact vx_isRef h rfl
  · exact vx_isRef h rfl
/-- the same frame, seen from here: as if the method were called anew in this heap -/
theorem vx_rebase {T : State} (X : Stand p l e R s m args below meth c T locs cells slots) {R' : Room} (hf : R'.frames ≤ R.frames) (hl : R'.locals ≤ R.locals) (hc : cells + R'.cells ≤ R.cells) (hs : slots + R'.slots ≤ R.slots) :
    Stand p l e R' ((T.setVm s.vm).setFrames (.invoking m args :: below)) m args below meth c T [] 0 0 := by
  have htop : (T.setVm s.vm).topJava?.isSome := X.here.top
  have hF : ((T.setVm s.vm).setFrames (.invoking m args :: below)).frames = .invoking m args :: below := State.frames_setFrames _ (State.cur_lt_of_top htop)
  obtain ⟨g₀, hg0⟩ := Option.isSome_iff_exists.mp htop
  obtain ⟨r, hr⟩ := State.topJava?_eq_some.mp hg0
  have hl9 : e.platform.stackLimits (T.setVm s.vm).me = e.platform.stackLimits s.me := X.limits
  have hb9 : (T.setVm s.vm).me.stackBytes = s.me.stackBytes := X.bytes
  refine ⟨X.admits, X.cas, X.clock, hF, ?_, X.hears, X.method, X.code, X.here, X.tail, X.warmed, ?_, ?_, ?_⟩
  · have h := X.room
    have hU : ((T.setVm s.vm).setFrames (.invoking m args :: below)).localsInUse = s.localsInUse := by
      rw [State.localsInUse_invoking hF (meth := meth) (c := c) X.method X.code, State.localsInUse_invoking X.frames X.method X.code]
    simp only [State.hasRoom, Bool.and_eq_true, decide_eq_true_eq] at h ⊢
    obtain ⟨⟨⟨⟨h1, h2, h3, h4, h5, h6⟩, h7⟩, h8⟩, h9⟩ := h
    rw [X.frames, List.length_cons] at h2 h3
    have q1 := X.heapSize
    have q2 := X.used
    simp only [hF, hU, List.length_cons, State.stackLimits_setFrames, State.stackBytes_setFrames, hl9, hb9]
    refine ⟨⟨⟨⟨by omega, by omega, by omega, by omega, by omega, h6⟩, ?_⟩, ?_⟩, X.book⟩
    · show T.heap.size + R'.cells ≤ e.platform.maxCells
      omega
    · show T.slotsUsed + R'.slots ≤ e.platform.maxSlots
      omega
  · rw [State.stackLimits_setFrames]; rfl
  · rw [State.stackBytes_setFrames]; rfl
  · refine ⟨?_, Nat.le_refl _, Nat.le_refl _, ?_, ?_, fun a c9 h9 => ⟨c9, h9, rfl, rfl, fun _ _ => rfl⟩⟩
    · obtain ⟨t, ht, -⟩ := State.frames_cons hr
      show T.setVm s.vm = { ((T.setVm s.vm).setFrames (.invoking m args :: below)).setFrames (T.setVm s.vm).frames with heap := T.heap, slotsUsed := T.slotsUsed }
      rw [State.setFrames_setFrames, State.setFrames_self ht]
      rfl
    · show T.slotsUsed = T.slotsUsed + ((T.heap.toList.drop T.heap.size).map (·.slots.size)).sum
      rw [List.drop_eq_nil_of_le (Nat.le_of_eq Array.length_toList)]
      rfl
    · show ((T.heap.toList.drop T.heap.size).map (·.slots.size)).sum ≤ 0
      rw [List.drop_eq_nil_of_le (Nat.le_of_eq Array.length_toList)]
      exact Nat.le_refl _
/-- 'throw new E()': new; dup; invokespecial; athrow -/
theorem vx_throw0 {cc : ByteArray} {pc : Nat} (hexec : p.tables.exec = Jvm.exec) (hb : c.code = cc) (hl : l.stackTraces = false) {own cls : String} {names : List String} {ik ic mc ms : Nat} {A : Nat → Prop}
    (hown : s.vm.findClass own = some m.cls) (hcls : Bundle.fit cls = true) (hnames : ∀ n ∈ names, Bundle.fit n = true)
    (hk : (Cond.classLink own ik cls).before args s = true) (hini : (Cond.initialized cls).before args s = true) (hat : ∀ w ∈ vx_at0 own ic cls names, w.before args s = true)
    (hgood : ∀ w ∈ Cond.classLink own ik cls :: Cond.initialized cls :: vx_at0 own ic cls names, vx_ot w = true)
    (hU : vx_Zq Bundle.tN "UNASSIGNED_STACK" Bundle.steD A s s.heap) (hN : vx_Zq Bundle.tN "SUPPRESSED_SENTINEL" Bundle.listD A s s.heap) (hS : va_S A s.heap H locs) (hsize : ls.size = c.maxLocals)
    (d0 : decode cc pc = .ok (.new ik, 3)) (d3 : decode cc (pc + 3) = .ok (.dup, 1)) (d4 : decode cc (pc + 4) = .ok (.invokespecial ic, 3)) (d7 : decode cc (pc + 7) = .ok (.athrow, 1))
    (hout : ∀ x ∈ c.exceptionTable.toList, covers x (pc + 7) = false)
    (hRframes : names.length + 3 < R.frames) (hRlocals : (rest.map fun v => v.category).sum + (13 * (names.length + 1) + 42) ≤ R.locals) (hRcells : cells + 1 ≤ R.cells) (hRslots : slots + 6 ≤ R.slots) (hlocks : meth.locks = false)
    (hx : ∀ t : State, s.vm.Alike t.vm → H.size ≤ t.heap.size → (∀ q : Nat, q < H.size → t.heap[q]? = H[q]?) → XC cls s t)
    (hf : ∀ z ∈ locs, free z.base) (hc : cells + 1 ≤ mc) (hs : slots + 6 ≤ ms) :
    W p l e R s m args below meth c H locs cells slots (vx_MQ below Qc XC args s mc ms free) (F0 m pc ls rest) := by
  intro T hT X
  have htr : e.platform.stackTraces = false := (show e.platform.stackTraces = l.stackTraces by rw [X.admits.platform]).trans hl
  have Y := vx_rebase X (R' := { frames := R.frames, locals := R.locals, cells := 1, slots := 6 }) (Nat.le_refl _) (Nat.le_refl _) hRcells hRslots
  obtain ⟨s', hA⟩ : ∃ z, z = (T.setVm s.vm).setFrames (.invoking m args :: below) := ⟨_, rfl⟩
  rw [← hA] at Y
  have hvm : s'.vm = s.vm := by rw [hA]; rfl
  have hhp : s'.heap = H := by rw [hA]; exact hT
  have hW0 : s.WarmedH s'.vm := by rw [hvm]; exact State.WarmedH.refl s
  have hat' : ∀ w ∈ vx_at0 own ic cls names, w.before args s' = true := fun w hw => vx_ot_at hW0 hvm.symm (hgood w (List.mem_cons_of_mem _ (List.mem_cons_of_mem _ hw))) (hat w hw)
  have hk' : (Cond.classLink own ik cls).before args s' = true := vx_ot_at hW0 hvm.symm (hgood _ List.mem_cons_self) hk
  have hini' : (Cond.initialized cls).before args s' = true := vx_ot_at hW0 hvm.symm (hgood _ (List.mem_cons_of_mem _ List.mem_cons_self)) hini
  have hU' : vx_Zq Bundle.tN "UNASSIGNED_STACK" Bundle.steD A s' s'.heap := by rw [hhp]; exact vx_Zq.moved hW0.alike (hU.kept hS.2.1)
  have hN' : vx_Zq Bundle.tN "SUPPRESSED_SENTINEL" Bundle.listD A s' s'.heap := by rw [hhp]; exact vx_Zq.moved hW0.alike (hN.kept hS.2.1)
  have h : ∀ w ∈ Bundle.ownAtoms0 own ic cls names, w.before args s' = true := vx_own hat' (vx_isRefq hU'.1) (vx_isRefq hN'.1) hU'.2.word hN'.2.word
  have hown' : s'.vm.findClass own = some m.cls := by rw [hvm]; exact hown
  have hins : (Cond.instantiable cls 6).before args s' = true := h _ (by simp [Bundle.ownAtoms0])
  obtain ⟨vm₁, cX, kX, hfX, hkX, -, -, X₁, st1⟩ := Y.newCold hexec (own := own) (C := cls) (index := ik) (n := 6) hown' hk' hins hini'
    (g := F0 m pc ls rest) rfl (by rw [hb]; exact d0) (Nat.le_refl _) (Nat.le_refl _)
  generalize hT1 : (T.setVm vm₁).pushCell { cls := cX, slots := kX.instanceTypes.map defaultValue, vm := .none } = T1 at X₁ st1
  have hcat : (Value.ref T.heap.size).category = 1 := rfl
  have hcellA : T1.heap[T.heap.size]? = some (freshCell cX kX) := by rw [← hT1]; exact State.heap_pushCell_size _ _
  have d3' : decode c.code (pc + 3) = .ok (.dup, 1) := by rw [hb]; exact d3
  obtain ⟨U, hsteps, hrun, hend, hW, hsame, ce, hce, hO⟩ := X₁.ctorThrow0 hexec htr (own := own) (cls := cls) (names := names) (ic := ic) hown' hcls hnames h (fun x hx => nomatch hx) hfX hkX hcellA (by rw [hhp, hT]; exact Nat.le_refl _)
    (g := { method := m, pc := pc + 4, locals := ls, stack := .ref T.heap.size :: .ref T.heap.size :: rest, locked := none }) rfl hsize rfl rfl (rest := rest) rfl
    (by rw [hb]; exact d4) (by rw [hb]; exact d7) hout hRframes (by simp only [List.map_cons, List.sum_cons, hcat]; omega) hlocks
  obtain ⟨f1, f2⟩ := vx_frame hsame
  rw [hhp] at f1 f2
  have hWs : s.WarmedH U.vm := State.WarmedH.trans hW0 hW
  have hcl : s.vm.findClass cls = some ce.cls := by
    have h9 := hO.cls
    rw [hvm] at h9
    exact h9
  have hall : s.sameButNew ({ U with vm := s.vm } : State) locs mc ms := by
    subst hA
    obtain ⟨e1, e2⟩ := hsame
    rw [State.setFrames_setFrames] at e1
    have h2 : (T.setVm s.vm).sameButNew ({ U with vm := s.vm } : State) [] (0 + 1) (0 + 6) := ⟨e1, e2⟩
    have h3 := X.same.trans h2
    rw [List.append_nil] at h3
    exact h3.mono hc hs
  refine ⟨U, ?_, .threw T.heap.size, hrun, hend, Or.inr ⟨T.heap.size, rfl, cls, ce, locs, hx U hWs.alike f1 (fun q hq => f2 q hq (fun z hz => nomatch hz)), hce, hO.vm, hcl, hWs, hall, hf⟩⟩
  refine st1 _ ?_
  show Steps p.tables e below (T1.setTop { method := m, pc := pc + 3, locals := ls, stack := .ref T.heap.size :: rest, locked := none }) _
  jvm_step X₁.here [X₁.here.top, hexec, d3', Value.category]
  exact hsteps
/-- 'throw new E("text")': new; dup; ldc; invokespecial; athrow -/
theorem vx_throwS {cc : ByteArray} {pc : Nat} (hexec : p.tables.exec = Jvm.exec) (hb : c.code = cc) (hl : l.stackTraces = false) {own cls text : String} {names : List String} {ik is ic mc ms sa : Nat} {A : Nat → Prop}
    (hown : s.vm.findClass own = some m.cls) (hcls : Bundle.fit cls = true) (hnames : ∀ n ∈ names, Bundle.fit n = true)
    (hk : (Cond.classLink own ik cls).before args s = true) (hini : (Cond.initialized cls).before args s = true) (hstr : vk_R own is text sa s) (hat : ∀ w ∈ vx_atS own ic cls names, w.before args s = true)
    (hgood : ∀ w ∈ Cond.classLink own ik cls :: Cond.initialized cls :: vx_atS own ic cls names, vx_ot w = true)
    (hU : vx_Zq Bundle.tN "UNASSIGNED_STACK" Bundle.steD A s s.heap) (hN : vx_Zq Bundle.tN "SUPPRESSED_SENTINEL" Bundle.listD A s s.heap) (hS : va_S A s.heap H locs) (hsize : ls.size = c.maxLocals)
    (d0 : decode cc pc = .ok (.new ik, 3)) (d3 : decode cc (pc + 3) = .ok (.dup, 1)) (d4 : decode cc (pc + 4) = .ok (.ldc is, 2)) (d6 : decode cc (pc + 6) = .ok (.invokespecial ic, 3)) (d9 : decode cc (pc + 9) = .ok (.athrow, 1))
    (hout : ∀ x ∈ c.exceptionTable.toList, covers x (pc + 9) = false)
    (hRframes : names.length + 3 < R.frames) (hRlocals : (rest.map fun v => v.category).sum + (13 * (names.length + 1) + 43) ≤ R.locals) (hRcells : cells + 1 ≤ R.cells) (hRslots : slots + 6 ≤ R.slots) (hlocks : meth.locks = false)
    (hx : ∀ t : State, s.vm.Alike t.vm → H.size ≤ t.heap.size → (∀ q : Nat, q < H.size → t.heap[q]? = H[q]?) → XC cls s t)
    (hf : ∀ z ∈ locs, free z.base) (hc : cells + 1 ≤ mc) (hs : slots + 6 ≤ ms) :
    W p l e R s m args below meth c H locs cells slots (vx_MQ below Qc XC args s mc ms free) (F0 m pc ls rest) := by
  intro T hT X
  have htr : e.platform.stackTraces = false := (show e.platform.stackTraces = l.stackTraces by rw [X.admits.platform]).trans hl
  have Y := vx_rebase X (R' := { frames := R.frames, locals := R.locals, cells := 1, slots := 6 }) (Nat.le_refl _) (Nat.le_refl _) hRcells hRslots
  obtain ⟨s', hA⟩ : ∃ z, z = (T.setVm s.vm).setFrames (.invoking m args :: below) := ⟨_, rfl⟩
  rw [← hA] at Y
  have hvm : s'.vm = s.vm := by rw [hA]; rfl
  have hhp : s'.heap = H := by rw [hA]; exact hT
  have hW0 : s.WarmedH s'.vm := by rw [hvm]; exact State.WarmedH.refl s
  have hat' : ∀ w ∈ vx_atS own ic cls names, w.before args s' = true := fun w hw => vx_ot_at hW0 hvm.symm (hgood w (List.mem_cons_of_mem _ (List.mem_cons_of_mem _ hw))) (hat w hw)
  have hk' : (Cond.classLink own ik cls).before args s' = true := vx_ot_at hW0 hvm.symm (hgood _ List.mem_cons_self) hk
  have hini' : (Cond.initialized cls).before args s' = true := vx_ot_at hW0 hvm.symm (hgood _ (List.mem_cons_of_mem _ List.mem_cons_self)) hini
  have hU' : vx_Zq Bundle.tN "UNASSIGNED_STACK" Bundle.steD A s' s'.heap := by rw [hhp]; exact vx_Zq.moved hW0.alike (hU.kept hS.2.1)
  have hN' : vx_Zq Bundle.tN "SUPPRESSED_SENTINEL" Bundle.listD A s' s'.heap := by rw [hhp]; exact vx_Zq.moved hW0.alike (hN.kept hS.2.1)
  have h : ∀ w ∈ Bundle.ownAtoms own ic cls names, w.before args s' = true := vx_own hat' (vx_isRefq hU'.1) (vx_isRefq hN'.1) hU'.2.word hN'.2.word
  have hown' : s'.vm.findClass own = some m.cls := by rw [hvm]; exact hown
  have hins : (Cond.instantiable cls 6).before args s' = true := h _ (by simp [Bundle.ownAtoms])
  obtain ⟨vm₁, cX, kX, hfX, hkX, -, -, X₁, st1⟩ := Y.newCold hexec (own := own) (C := cls) (index := ik) (n := 6) hown' hk' hins hini'
    (g := F0 m pc ls rest) rfl (by rw [hb]; exact d0) (Nat.le_refl _) (Nat.le_refl _)
  generalize hT1 : (T.setVm vm₁).pushCell { cls := cX, slots := kX.instanceTypes.map defaultValue, vm := .none } = T1 at X₁ st1
  have hcat : (Value.ref T.heap.size).category = 1 := rfl
  have hcellA : T1.heap[T.heap.size]? = some (freshCell cX kX) := by rw [← hT1]; exact State.heap_pushCell_size _ _
  have d3' : decode c.code (pc + 3) = .ok (.dup, 1) := by rw [hb]; exact d3
  have d4' : decode c.code (pc + 4) = .ok (.ldc is, 2) := by rw [hb]; exact d4
  have hstr' : vk_R own is text sa s' := vk_R.warm hW0 hstr
  obtain ⟨U, hsteps, hrun, hend, hW, hsame, ce, hce, hO⟩ := X₁.ctorThrowS hexec htr (own := own) (cls := cls) (names := names) (ic := ic) hown' hcls hnames h (fun x hx => nomatch hx) hfX hkX hcellA (by rw [hhp, hT]; exact Nat.le_refl _) (msg := .ref sa) rfl
    (g := { method := m, pc := pc + 6, locals := ls, stack := .ref sa :: .ref T.heap.size :: .ref T.heap.size :: rest, locked := none }) rfl hsize rfl rfl (rest := rest) rfl
    (by rw [hb]; exact d6) (by rw [hb]; exact d9) hout hRframes (by simp only [List.map_cons, List.sum_cons, hcat]; omega) hlocks
  obtain ⟨f1, f2⟩ := vx_frame hsame
  rw [hhp] at f1 f2
  have hWs : s.WarmedH U.vm := State.WarmedH.trans hW0 hW
  have hcl : s.vm.findClass cls = some ce.cls := by
    have h9 := hO.cls
    rw [hvm] at h9
    exact h9
  have hall : s.sameButNew ({ U with vm := s.vm } : State) locs mc ms := by
    subst hA
    obtain ⟨e1, e2⟩ := hsame
    rw [State.setFrames_setFrames] at e1
    have h2 : (T.setVm s.vm).sameButNew ({ U with vm := s.vm } : State) [] (0 + 1) (0 + 6) := ⟨e1, e2⟩
    have h3 := X.same.trans h2
    rw [List.append_nil] at h3
    exact h3.mono hc hs
  refine ⟨U, ?_, .threw T.heap.size, hrun, hend, Or.inr ⟨T.heap.size, rfl, cls, ce, locs, hx U hWs.alike f1 (fun q hq => f2 q hq (fun z hz => nomatch hz)), hce, hO.vm, hcl, hWs, hall, hf⟩⟩
  refine st1 _ ?_
  show Steps p.tables e below (T1.setTop { method := m, pc := pc + 3, locals := ls, stack := .ref T.heap.size :: rest, locked := none }) _
  jvm_step X₁.here [X₁.here.top, hexec, d3', Value.category]
  exact X₁.ldcString hexec (own := own) (text := text) (index := is) (a := sa) hown' hstr'.1 hstr'.2
    (g := { method := m, pc := pc + 4, locals := ls, stack := .ref T.heap.size :: .ref T.heap.size :: rest, locked := none }) rfl d4' _ hsteps
/-- 'throw new E("text")', the text by a wide index -/
theorem vx_throwSW {cc : ByteArray} {pc : Nat} (hexec : p.tables.exec = Jvm.exec) (hb : c.code = cc) (hl : l.stackTraces = false) {own cls text : String} {names : List String} {ik is ic mc ms sa : Nat} {A : Nat → Prop}
    (hown : s.vm.findClass own = some m.cls) (hcls : Bundle.fit cls = true) (hnames : ∀ n ∈ names, Bundle.fit n = true)
    (hk : (Cond.classLink own ik cls).before args s = true) (hini : (Cond.initialized cls).before args s = true) (hstr : vk_R own is text sa s) (hat : ∀ w ∈ vx_atS own ic cls names, w.before args s = true)
    (hgood : ∀ w ∈ Cond.classLink own ik cls :: Cond.initialized cls :: vx_atS own ic cls names, vx_ot w = true)
    (hU : vx_Zq Bundle.tN "UNASSIGNED_STACK" Bundle.steD A s s.heap) (hN : vx_Zq Bundle.tN "SUPPRESSED_SENTINEL" Bundle.listD A s s.heap) (hS : va_S A s.heap H locs) (hsize : ls.size = c.maxLocals)
    (d0 : decode cc pc = .ok (.new ik, 3)) (d3 : decode cc (pc + 3) = .ok (.dup, 1)) (d4 : decode cc (pc + 4) = .ok (.ldc_w is, 3)) (d7 : decode cc (pc + 7) = .ok (.invokespecial ic, 3)) (d10 : decode cc (pc + 10) = .ok (.athrow, 1))
    (hout : ∀ x ∈ c.exceptionTable.toList, covers x (pc + 10) = false)
    (hRframes : names.length + 3 < R.frames) (hRlocals : (rest.map fun v => v.category).sum + (13 * (names.length + 1) + 43) ≤ R.locals) (hRcells : cells + 1 ≤ R.cells) (hRslots : slots + 6 ≤ R.slots) (hlocks : meth.locks = false)
    (hx : ∀ t : State, s.vm.Alike t.vm → H.size ≤ t.heap.size → (∀ q : Nat, q < H.size → t.heap[q]? = H[q]?) → XC cls s t)
    (hf : ∀ z ∈ locs, free z.base) (hc : cells + 1 ≤ mc) (hs : slots + 6 ≤ ms) :
    W p l e R s m args below meth c H locs cells slots (vx_MQ below Qc XC args s mc ms free) (F0 m pc ls rest) := by
  intro T hT X
  have htr : e.platform.stackTraces = false := (show e.platform.stackTraces = l.stackTraces by rw [X.admits.platform]).trans hl
  have Y := vx_rebase X (R' := { frames := R.frames, locals := R.locals, cells := 1, slots := 6 }) (Nat.le_refl _) (Nat.le_refl _) hRcells hRslots
  obtain ⟨s', hA⟩ : ∃ z, z = (T.setVm s.vm).setFrames (.invoking m args :: below) := ⟨_, rfl⟩
  rw [← hA] at Y
  have hvm : s'.vm = s.vm := by rw [hA]; rfl
  have hhp : s'.heap = H := by rw [hA]; exact hT
  have hW0 : s.WarmedH s'.vm := by rw [hvm]; exact State.WarmedH.refl s
  have hat' : ∀ w ∈ vx_atS own ic cls names, w.before args s' = true := fun w hw => vx_ot_at hW0 hvm.symm (hgood w (List.mem_cons_of_mem _ (List.mem_cons_of_mem _ hw))) (hat w hw)
  have hk' : (Cond.classLink own ik cls).before args s' = true := vx_ot_at hW0 hvm.symm (hgood _ List.mem_cons_self) hk
  have hini' : (Cond.initialized cls).before args s' = true := vx_ot_at hW0 hvm.symm (hgood _ (List.mem_cons_of_mem _ List.mem_cons_self)) hini
  have hU' : vx_Zq Bundle.tN "UNASSIGNED_STACK" Bundle.steD A s' s'.heap := by rw [hhp]; exact vx_Zq.moved hW0.alike (hU.kept hS.2.1)
  have hN' : vx_Zq Bundle.tN "SUPPRESSED_SENTINEL" Bundle.listD A s' s'.heap := by rw [hhp]; exact vx_Zq.moved hW0.alike (hN.kept hS.2.1)
  have h : ∀ w ∈ Bundle.ownAtoms own ic cls names, w.before args s' = true := vx_own hat' (vx_isRefq hU'.1) (vx_isRefq hN'.1) hU'.2.word hN'.2.word
  have hown' : s'.vm.findClass own = some m.cls := by rw [hvm]; exact hown
  have hins : (Cond.instantiable cls 6).before args s' = true := h _ (by simp [Bundle.ownAtoms])
  obtain ⟨vm₁, cX, kX, hfX, hkX, -, -, X₁, st1⟩ := Y.newCold hexec (own := own) (C := cls) (index := ik) (n := 6) hown' hk' hins hini'
    (g := F0 m pc ls rest) rfl (by rw [hb]; exact d0) (Nat.le_refl _) (Nat.le_refl _)
  generalize hT1 : (T.setVm vm₁).pushCell { cls := cX, slots := kX.instanceTypes.map defaultValue, vm := .none } = T1 at X₁ st1
  have hcat : (Value.ref T.heap.size).category = 1 := rfl
  have hcellA : T1.heap[T.heap.size]? = some (freshCell cX kX) := by rw [← hT1]; exact State.heap_pushCell_size _ _
  have d3' : decode c.code (pc + 3) = .ok (.dup, 1) := by rw [hb]; exact d3
  have d4' : decode c.code (pc + 4) = .ok (.ldc_w is, 3) := by rw [hb]; exact d4
  have hstr' : vk_R own is text sa s' := vk_R.warm hW0 hstr
  obtain ⟨U, hsteps, hrun, hend, hW, hsame, ce, hce, hO⟩ := X₁.ctorThrowS hexec htr (own := own) (cls := cls) (names := names) (ic := ic) hown' hcls hnames h (fun x hx => nomatch hx) hfX hkX hcellA (by rw [hhp, hT]; exact Nat.le_refl _) (msg := .ref sa) rfl
    (g := { method := m, pc := pc + 7, locals := ls, stack := .ref sa :: .ref T.heap.size :: .ref T.heap.size :: rest, locked := none }) rfl hsize rfl rfl (rest := rest) rfl
    (by rw [hb]; exact d7) (by rw [hb]; exact d10) hout hRframes (by simp only [List.map_cons, List.sum_cons, hcat]; omega) hlocks
  obtain ⟨f1, f2⟩ := vx_frame hsame
  rw [hhp] at f1 f2
  have hWs : s.WarmedH U.vm := State.WarmedH.trans hW0 hW
  have hcl : s.vm.findClass cls = some ce.cls := by
    have h9 := hO.cls
    rw [hvm] at h9
    exact h9
  have hall : s.sameButNew ({ U with vm := s.vm } : State) locs mc ms := by
    subst hA
    obtain ⟨e1, e2⟩ := hsame
    rw [State.setFrames_setFrames] at e1
    have h2 : (T.setVm s.vm).sameButNew ({ U with vm := s.vm } : State) [] (0 + 1) (0 + 6) := ⟨e1, e2⟩
    have h3 := X.same.trans h2
    rw [List.append_nil] at h3
    exact h3.mono hc hs
  refine ⟨U, ?_, .threw T.heap.size, hrun, hend, Or.inr ⟨T.heap.size, rfl, cls, ce, locs, hx U hWs.alike f1 (fun q hq => f2 q hq (fun z hz => nomatch hz)), hce, hO.vm, hcl, hWs, hall, hf⟩⟩
  refine st1 _ ?_
  show Steps p.tables e below (T1.setTop { method := m, pc := pc + 3, locals := ls, stack := .ref T.heap.size :: rest, locked := none }) _
  jvm_step X₁.here [X₁.here.top, hexec, d3', Value.category]
  exact X₁.ldcStringW hexec (own := own) (text := text) (index := is) (a := sa) hown' hstr'.1 hstr'.2
    (g := { method := m, pc := pc + 4, locals := ls, stack := .ref T.heap.size :: .ref T.heap.size :: rest, locked := none }) rfl d4' _ hsteps
end Ends
section Bodies
variable {l : Launch}
theorem vx_ofW {y : MethodName} {ws ws' : List Cond} {rm : Room} {Pc : Array Value → State → Prop} {Qc : Array Value → State → Outcome → State → Prop} {XC : String → State → State → Prop} {mc ms : Nat} {free : Addr → Prop} {cc : ByteArray} {maxL : Nat} {ret : Option FieldType}
    (hy : plainName y.cls = true) (hw : ws = Cond.code y cc maxL ret :: ws')
    (body : ∀ p e s m args below meth c s₁, BodyLoose p l y (headSpec ws rm) cc maxL ret e s m args below meth c s₁ → c.maxLocals = maxL → (∀ x ∈ c.exceptionTable.toList, False) → Pc args s →
      W p l e (headSpec ws rm).room s m args below meth c s.heap [] 0 0 (vx_MQ below Qc XC args s mc ms free) (entryFrame m args maxL)) : vx_Met l y ws rm Pc Qc XC mc ms free := by
  refine MetFree.of_bodyS (code := cc) (maxLocals := maxL) (ret := ret) hy ?_ ?_
  · intro args s m h hn
    obtain ⟨meth, c, h1, h2, h3, h4, h5, h6, -, -⟩ := Cond.code_spec hn (atoms_spec (ws := ws) h _ (by rw [hw]; exact List.mem_cons_self))
    exact ⟨meth, c, h1, h2, h3, h4, h5, h6⟩
  · intro p e s m args below meth c s₁ B hml hP _
    have hh0 : s₁.heap = s.heap := by rw [B.state]; rfl
    have ht : ∀ x ∈ c.exceptionTable.toList, False := by
      obtain ⟨meth9, c9, h1, h2, -, -, -, -, h7, -⟩ := Cond.code_spec B.named (atoms_spec (ws := ws) B.pre _ (by rw [hw]; exact List.mem_cons_self))
      cases Option.some.inj (h1.symm.trans B.method)
      cases Option.some.inj (h2.symm.trans (Stand.of_body B).code)
      intro x hx
      rw [Array.isEmpty_iff.mp h7] at hx
      cases hx
    obtain ⟨t, a1, o, b1, b2, b3⟩ := body p e s m args below meth c s₁ B hml ht hP s₁ hh0 (Stand.of_body B)
    exact ⟨t, o, a1, b1, b2, b3⟩
/-- the table of a body with handlers -/
theorem vx_table {p : Program} {x y : MethodName} {S : Spec} {cc bytes : ByteArray} {maxL maxL' : Nat} {ret ret' : Option FieldType} {e : Env} {s s₁ : State} {m : MethodId} {args : Array Value} {below : List Frame} {meth : Method} {c : Code} {hh : List (Nat × Nat × Nat × Nat)}
    (B : BodyLoose p l y S cc maxL ret e s m args below meth c s₁) (h : (Cond.codeWith y bytes maxL' ret' hh).before args s = true) : c.exceptionTable.toList = tableOf hh := by
  obtain ⟨m9, meth9, c9, hn9, h1, h2, -, -, h6, -⟩ := Cond.codeWith_spec h
  cases Option.some.inj (hn9.symm.trans B.named)
  cases Option.some.inj (h1.symm.trans B.method)
  cases Option.some.inj (h2.symm.trans (Stand.of_body B).code)
  rw [← h6, table_eq]
end Bodies
end VXA
/-! ===== END ===== -/
/-! ===== BEGIN a static call of a method with an exception table ===== -/
section VXS
variable {p : Program} {l : Launch} {e : Env} {R : Room} {s : State} {m : MethodId} {args : Array Value} {below : List Frame} {meth : Method} {c : Code} {T : State} {H : Heap} {locs : List Loc} {cells slots : Nat}
abbrev vx_CSW (R : Room) (s : State) (args : Array Value) (own : String) (index : Nat) (y : MethodName) (bytes : ByteArray) (maxL : Nat) (ret : Option FieldType) (hh : List (Nat × Nat × Nat × Nat)) (ws : List Cond) (rm : Room) (mc ms n : Nat) : Prop :=
  (rm.cells = mc ∧ rm.slots = ms ∧ rm.frames + 1 ≤ R.frames ∧ 8 + (maxL + 11) + rm.locals ≤ R.locals ∧ (∀ w ∈ ws, ∀ (a' : Array Value) (U : State), s.WarmedH U.vm → w.before a' U = true) ∧ Cond.codeWith y bytes maxL ret hh ∈ ws) ∧
  (Cond.codeWith y bytes maxL ret hh).before args s = true ∧ (Cond.initialized y.cls).before args s = true ∧ (y.cls ≠ "java/lang/invoke/MethodHandle" ∧ y.cls ≠ "java/lang/invoke/VarHandle") ∧
  (∀ sig, parseMethodDescriptor y.desc = some sig → n = sig.parameters.length) ∧ (Cond.methodLink own index y).before args s = true ∧ (Cond.static y).before args s = true
theorem vx_cwSW {own : String} {index maxL mc ms : Nat} {y : MethodName} {bytes : ByteArray} {ret : Option FieldType} {hh : List (Nat × Nat × Nat × Nat)} {Ts ws ws' : List Cond} {rm : Room} (n : Nat) (ht : ∀ w ∈ Ts, w.before args s = true) (hT : GoodIn Ts (va_wsS own index y ws)) (hw : ws = Cond.codeWith y bytes maxL ret hh :: ws') (hrc : rm.cells = mc) (hrs : rm.slots = ms)
    (hd : y.cls ≠ "java/lang/invoke/MethodHandle" ∧ y.cls ≠ "java/lang/invoke/VarHandle" ∧ (parseMethodDescriptor y.desc).map (fun d => d.parameters.length) = some n) (hR : rm.frames + 1 ≤ R.frames ∧ 8 + (maxL + 11) + rm.locals ≤ R.locals) :
    vx_CSW R s args own index y bytes maxL ret hh ws rm mc ms n := by
  have ok : ∀ w ∈ va_wsS own index y ws, w.before args s = true := fun w h => ht w (hT w h).1
  have hG : GoodIn Ts ws := fun w h => hT w (by unfold va_wsS; exact List.mem_append_right _ h)
  have hc : Cond.codeWith y bytes maxL ret hh ∈ ws := by rw [hw]; exact List.mem_cons_self
  refine ⟨⟨hrc, hrs, hR.1, hR.2, pay_in ht hG, hc⟩, ht _ (hG _ hc).1, ok _ (by simp [va_wsS]), ⟨hd.1, hd.2.1⟩, fun sig h => ?_, ok _ (by simp [va_wsS]), ok _ (by simp [va_wsS])⟩
  have h2 := hd.2.2
  rw [h] at h2
  exact (Option.some.inj h2).symm
theorem vx_callSW (X : Stand p l e R s m args below meth c T locs cells slots) (hexec : p.tables.exec = Jvm.exec) {own : String} {index : Nat} {y : MethodName} {bytes : ByteArray} {maxL : Nat} {ret : Option FieldType} {hh : List (Nat × Nat × Nat × Nat)}
    (hown : s.vm.findClass own = some m.cls) (hlink : (Cond.methodLink own index y).before args s = true) (hstat : (Cond.static y).before args s = true) (hinit : (Cond.initialized y.cls).before args s = true)
    (hcode : (Cond.codeWith y bytes maxL ret hh).before args s = true) (hy : y.cls ≠ "java/lang/invoke/MethodHandle" ∧ y.cls ≠ "java/lang/invoke/VarHandle")
    {W9 : Nat} {Pre : Pt → Array Value → Prop} {Post : Pt → Array Value → Option Value → Pt → Prop} (hK : Back l R p e below s args y 3 W9 Pre Post)
    {g : JFrame} (hg : g.method = m) (hsize : g.locals.size = c.maxLocals) {argsL rest : List Value} (hlen : ∀ sig, parseMethodDescriptor y.desc = some sig → argsL.length = sig.parameters.length)
    (hstack : g.stack = argsL.reverse ++ rest) (hW : 2 * g.monitorRoom + (rest.map fun v => v.category).sum ≤ W9) (hdg : decode c.code g.pc = .ok (.invokestatic index, 3))
    (hpre : ∀ vm₁, s.WarmedH vm₁ → Pre ⟨T.setVm vm₁, locs, cells, slots⟩ argsL.toArray) :
    ∃ (v : Option Value) (vm₁ : Vm) (B : Pt), s.WarmedH vm₁ ∧ Stand p l e R s m args below meth c B.U B.locs B.cells B.slots ∧ Post ⟨T.setVm vm₁, locs, cells, slots⟩ argsL.toArray v B ∧
      ∀ target, Steps p.tables e below (B.U.setTop { g with pc := g.pc + 3, stack := v.toList ++ rest }) target → Steps p.tables e below (T.setTop g) target := by
  obtain ⟨mk, methM, cM, hnamed, hmethM, -, -, -, -, -, -, hsigM⟩ := Cond.codeWith_spec hcode
  have hstatic : methM.isStatic = true := Cond.static_spec hnamed hmethM hstat
  obtain ⟨kP, hkP, -⟩ := className_of_methodNamed hnamed
  have hinitP : kP.init = .initialized := Cond.initialized_spec (findClass_of_methodNamed hnamed) hkP hinit
  obtain ⟨vm₁, X₁, hstep₁⟩ := X.invokestatic hexec hown hlink hnamed hmethM hstatic hkP hinitP hy (g := g) hg (argsL := argsL) (rest := rest) (hlen _ hsigM) hstack hdg
  obtain ⟨v, B, X', hpost, hsteps⟩ := hK m meth c ⟨T.setVm vm₁, locs, cells, slots⟩ { g with stack := rest } (.invokestatic index) mk argsL.toArray X₁ hg hsize hdg hW (X₁.named hnamed) (hpre vm₁ X₁.warmed)
  exact ⟨v, vm₁, B, X₁.warmed, X', hpost, fun target h => hstep₁ _ fun acts => by rw [doInvoke_state]; exact hsteps.trans h⟩
theorem vx_runSW {y : MethodName} {bytes cc : ByteArray} {maxL nL mc ms n index : Nat} {ret : Option FieldType} {hh : List (Nat × Nat × Nat × Nat)} {ws : List Cond} {rm : Room} {Pc : Array Value → State → Prop} {Qc : Array Value → State → Outcome → State → Prop} {free : Addr → Prop} {Ts : List Cond} {own : String} {As rest : List Value} {g : JFrame}
    (S : CallFix p m c cc nL s args Ts own) (hM : Met l y ws rm Pc Qc mc ms free) (cw : vx_CSW R s args own index y bytes maxL ret hh ws rm mc ms n) (hp : PreS s H Pc As)
    (hg : g.method = m) (hn : As.length = n) (hsize : g.locals.size = nL) (hstack : g.stack = As.reverse ++ rest) (hW : 2 * g.monitorRoom + (rest.map fun v => v.category).sum ≤ 8) (hdg : decode cc g.pc = .ok (.invokestatic index, 3)) (hf : cells + mc ≤ R.cells ∧ slots + ms ≤ R.slots) :
    va_Run p l e R s m args below meth c H locs cells slots mc ms g rest (Qc As.toArray) (free) := by
  obtain ⟨⟨hrc, hrs, hfr, hlo, hws, hcw⟩, hcode, hini, hy, hlen, hl, hstt⟩ := cw
  have hK : Back l R p e below s args y 3 8 (PreOf R mc ms Pc) (PostOf Qc mc ms free) := va_backW (hh := hh) (bytes := bytes) (maxL := maxL) (ret := ret) hM hp.1 hrc hrs hfr hlo hws hcw (fun a' U hW => word_at hW (Or.inl (by first | rfl | simp [Cond.onTables, Cond.keeps, Cond.steady])) hini)
  obtain ⟨hx, hb, hml, ho, -⟩ := S
  intro T hT X
  obtain ⟨v, vm₁, ⟨U', l2, c2, s2⟩, hW₁, X', ⟨g', mk, t, L, e1, e2, hq, h1, hL, h2, h3⟩, st⟩ := vx_callSW X hx (hh := hh) (bytes := bytes) (maxL := maxL) (ret := ret) ho hl hstt hini hcode hy hK hg (hsize.trans hml.symm) (argsL := As) (rest := rest) (fun sig h => hn.trans (hlen sig h)) hstack hW (by rw [hb]; exact hdg)
    (fun vm₁ hW₁ => ⟨hf.1, hf.2, hp.2 (T.setVm vm₁) hT hW₁⟩)
  dsimp only [Pt.U, Pt.locs, Pt.cells, Pt.slots] at X' e1 e2 h1 h2 h3 st
  subst h1; subst h2; subst h3
  exact ⟨v, (T.setVm vm₁).calling g' mk As.toArray, t, U', L, hT, X', hL, e1, e2, hq, st⟩
/-- not caught here, past rows that name other classes: it goes on to the caller -/
theorem vx_outP {p : Program} {l : Launch} {e : Env} {R : Room} {s : State} {m : MethodId} {args : Array Value} {below : List Frame} {meth : Method} {c : Code} {H : Heap} {locs : List Loc} {cells slots : Nat} {free : Addr → Prop} {ls : Array Slot} {rest : List Value} {Qc : Array Value → State → Outcome → State → Prop} {XC : String → State → State → Prop}
    {pc : Nat} {own E : String} {ce : Cell} {q : Addr} {mc ms : Nat} (hown : s.vm.findClass own = some m.cls) (hlocks : meth.locks = false)
    (hpass : ∀ z ∈ c.exceptionTable.toList, covers z pc = false ∨ (z.catchType ≠ 0 ∧ ∃ nm : String, (Cond.classLink own z.catchType nm).before args s = true ∧ va_Nc E nm s)) (hcell : H[q]? = some ce) (hv : ce.vm = .none) (hcl : s.vm.findClass E = some ce.cls)
    (hx : ∀ t : State, t.heap = H → s.vm.Alike t.vm → XC E s t) (hf : ∀ z ∈ locs, free z.base) (hc : cells ≤ mc) (hs : slots ≤ ms) :
    vx_W p l e R s m args below meth c H locs cells slots (vx_MQ below Qc XC args s mc ms free) (F0 m pc ls rest) q := by
  intro T hT X
  have hpl : e.platform.magicAccessors = ({} : Platform).magicAccessors := by rw [X.admits.platform]
  obtain ⟨vm', hW', X', st⟩ := X.outThrough hlocks q (g := F0 m pc ls rest) rfl rfl rfl (cell := ce) (by rw [hT]; exact hcell) (by rw [hv]; rfl)
    (by obtain ⟨k9, h9, -⟩ := Vm.findClass_spec hcl; exact ⟨k9, h9⟩) (fun z hz => by
      rcases hpass z hz with h | ⟨hz0, nm, hl1, hn1⟩
      · exact Or.inl h
      · obtain ⟨c6, hc6, hcl6⟩ := Cond.classLink_spec hown hl1 e.platform hpl
        obtain ⟨a8, b8, h1, h2, h3⟩ := hn1
        cases Option.some.inj (h1.symm.trans hcl)
        cases Option.some.inj (h2.symm.trans hc6)
        exact Or.inr ⟨hz0, _, hcl6, h3⟩)
  obtain ⟨g₀, hfr⟩ := X'.frames_eq
  have hcell9 : ((T.setVm vm').setFrames (.throwing q :: below)).heap[q]? = some ce := by
    show T.heap[q]? = some ce
    rw [hT]; exact hcell
  have hend : Ended ((T.setVm vm').setFrames (.throwing q :: below)) below (.threw q) := State.frames_setFrames _ (State.cur_lt_of_frames hfr)
  refine ⟨(T.setVm vm').setFrames (.throwing q :: below), ?_, .threw q, X'.here.running, hend, Or.inr ⟨q, rfl, E, ce, locs, hx _ hT (X'.ends _).1.alike, hcell9, hv, hcl, (X'.ends _).1, (X'.ends _).2.mono hc hs, hf⟩⟩
  rw [X.pushThrowing_eq]
  exact st
/-- a thing of a world lies in the heap -/
theorem vx_lt {D : va_G} {cl : List vw_C} {ws : va_W} {H1 : Heap} (h : va_P D cl ws H1) {k : Nat} {q : Nat × va_E} (hk : ws[k]? = some q) : q.1 < H1.size := (h k q hk).lt
end VXS
/-! ===== END ===== -/
/-! ===== BEGIN methods with a table of their own: called by a name, returning or throwing ===== -/
section VXH
/-! vx_backW, vx_callVX, vx_callSX, vx_callVW, vx_runVW, vx_runVX, vx_runSX, vx_ofWH follow the same proofs as their sisters above (Free/Laws.lean, Shelf42/LK1.lean); vx_outP calls Shelf42/NT130.lean (outThrough). -/
section
variable {l : Launch} {R : Room} {p : Program} {e : Env} {below : List Frame} {s : State} {sargs : Array Value} {y : MethodName} {len W9 : Nat}
theorem vx_backW {ws : List Cond} {rm : Room} {Pc : Array Value → State → Prop} {Qc : Array Value → State → Outcome → State → Prop} {XC : String → State → State → Prop} {mc ms : Nat} {free : Addr → Prop} {bytes : ByteArray} {maxL : Nat} {ret : Option FieldType} {hh : List (Nat × Nat × Nat × Nat)}
    (hM : vx_Met l y ws rm Pc Qc XC mc ms free) (hblind : FrameBlind Pc) (hrc : rm.cells = mc) (hrs : rm.slots = ms)
    (hframes : rm.frames + 1 ≤ R.frames) (hlocals : W9 + (maxL + 11) + rm.locals ≤ R.locals)
    (hws : ∀ w ∈ ws, ∀ a' U, s.WarmedH U.vm → w.before a' U = true) (hcode : Cond.codeWith y bytes maxL ret hh ∈ ws) (hinit : ∀ a' U, s.WarmedH U.vm → (Cond.initialized y.cls).before a' U = true) :
    vx_Back l R p e below s sargs y len W9 (PreOf R mc ms Pc) (PostOf Qc mc ms free) (vx_Post XC mc ms free) := by
  intro m meth c A g ig mk a X hg hsize hdg hW hn hp
  have h1 : (headSpec ws rm).pre.before a A.U = true := atoms_intro fun w hw => hws w hw _ _ X.warmed
  have h2 : (Cond.codeWith y bytes maxL ret hh).before a A.U = true := hws _ hcode _ _ X.warmed
  have h3 : (Cond.initialized y.cls).before a A.U = true := hinit _ _ X.warmed
  have h4 : A.cells + (headSpec ws rm).room.cells ≤ R.cells := by rw [show (headSpec ws rm).room.cells = mc from hrc]; exact hp.1
  have h5 : A.slots + (headSpec ws rm).room.slots ≤ R.slots := by rw [show (headSpec ws rm).room.slots = ms from hrs]; exact hp.2.1
  have hPc : Pc a (A.U.calling g mk a) := hblind _ _ _ _ hp.2.2
  obtain ⟨U, Ls, c0, s0⟩ := A
  dsimp only [Pt.U, Pt.locs, Pt.cells, Pt.slots] at h1 h2 h3 h4 h5 X hn hPc ⊢
  obtain ⟨m9, methY, cY, hn9, hmY, hcY, -, hlY, -⟩ := Cond.codeWith_spec h2
  cases Option.some.inj (hn9.symm.trans hn)
  obtain ⟨kY, hkY, -⟩ := className_of_methodNamed hn
  have hinitY : kY.init = .initialized := Cond.initialized_spec (findClass_of_methodNamed hn) hkY h3
  have h : At U g.method c below := by rw [hg]; exact X.here
  have hlocals9 : W9 + (maxL + 11) + (headSpec ws rm).room.locals ≤ R.locals := hlocals
  have happ : (headSpec ws rm).appliesLoose y e.platform (U.calling g mk a) = true :=
    Spec.appliesLoose_calling (g := g) h hdg hn hkY hinitY
      (X.room_calling (g := g) (R' := (headSpec ws rm).room) hsize hmY hcY hframes (by rw [hlY]; omega) h4 h5) h1
  obtain ⟨mid, hmid⟩ := h.above
  have hfr : (U.setTop g).frames = (.java g :: mid) ++ below := by rw [State.frames_setTop' g h.top, hmid]; rfl
  obtain ⟨o, s₂, hsteps, -, hend, hq⟩ := Steps.callFree hM p X.admits X.cas X.clock (acts := []) hfr happ hPc trivial
  have hq' : vx_Q Qc XC mc ms free a (U.calling g mk a) o s₂ := hq
  rw [State.frames_setTop' g h.top] at hend
  obtain ⟨g₀, hg0⟩ := Option.isSome_iff_exists.mp h.top
  obtain ⟨r, hr⟩ := State.topJava?_eq_some.mp hg0
  have hr' : (({ U with heap := s₂.heap, slotsUsed := s₂.slotsUsed } : State).setVm s₂.vm).frames = .java g₀ :: r := hr
  rcases hq' with ⟨hqc, L, hfe, hL⟩ | ⟨q, rfl, E, ce, L, hx, hce, hcv, hcl, hW₂, hsm, hL⟩
  · obtain ⟨⟨v, rfl⟩, hW₂, e2, q2, q3, q4, q5, q6⟩ := id hfe
    have e3 : s₂ = ({ (U.calling g mk a).setFrames s₂.frames with heap := s₂.heap, slotsUsed := s₂.slotsUsed } : State).setVm s₂.vm := by
      have : s₂ = ({ s₂ with vm := (U.calling g mk a).vm } : State).setVm s₂.vm := rfl
      rw [e2] at this
      exact this
    obtain ⟨c₂, i₂, len₂, hc₂, hd₂, hf₂⟩ := hend
    have hW' : U.WarmedH s₂.vm := hW₂
    have hcc : c₂ = c := by
      have h1 : s₂.code? g.method = U.code? g.method := by
        rw [State.code?_eq, State.code?_eq, hW'.alike.method?]
      exact Option.some.inj (hc₂.symm.trans (h1.trans h.code))
    subst hcc
    have hlen : len₂ = len := by rw [hdg] at hd₂; cases hd₂; rfl
    subst hlen
    have hs₂ : s₂ = (({ U with heap := s₂.heap, slotsUsed := s₂.slotsUsed } : State).setVm s₂.vm).setTop { g with pc := g.pc + len₂, stack := v.toList ++ g.stack } := by
      refine e3.trans ?_
      rw [hf₂, State.calling_eq h.top, State.setFrames_setFrames, State.setTop_of_frames _ hr', hr]
      rfl
    have hsame : U.sameButNew ({ U with heap := s₂.heap, slotsUsed := s₂.slotsUsed } : State) L mc ms := by
      refine ⟨?_, q2, q3, q4, q5, q6⟩
      obtain ⟨t, ht, -⟩ := State.frames_cons hr
      show ({ U with heap := s₂.heap, slotsUsed := s₂.slotsUsed } : State) = { U.setFrames U.frames with heap := s₂.heap, slotsUsed := s₂.slotsUsed }
      rw [State.setFrames_self ht]
    subst hg
    refine Or.inl ⟨v, ⟨(({ U with heap := s₂.heap, slotsUsed := s₂.slotsUsed } : State).setVm s₂.vm), Ls ++ L, c0 + mc, s0 + ms⟩,
      ⟨X.admits, X.cas, X.clock, X.frames, X.room, X.hears, X.method, X.code, (X.here.setHeapUsed s₂.heap s₂.slotsUsed).setVm hW'.alike, X.tail, State.WarmedH.trans X.warmed hW', X.limits, X.bytes, X.same.trans (hsame.setVm s.vm)⟩,
      ⟨g, mk, s₂, L, rfl, rfl, hqc, rfl, hL, rfl, rfl⟩, ?_⟩
    show Steps p.tables e below _ ((({ U with heap := s₂.heap, slotsUsed := s₂.slotsUsed } : State).setVm s₂.vm).setTop { g with pc := g.pc + len₂, stack := v.toList ++ g.stack })
    rw [← hs₂]
    exact hsteps
  · obtain ⟨e2, q2, q3, q4, q5, q6⟩ := id hsm
    have e3 : s₂ = ({ (U.calling g mk a).setFrames s₂.frames with heap := s₂.heap, slotsUsed := s₂.slotsUsed } : State).setVm s₂.vm := by
      have : s₂ = ({ s₂ with vm := (U.calling g mk a).vm } : State).setVm s₂.vm := rfl
      rw [e2] at this
      exact this
    have hf₂ : s₂.frames = .throwing q :: .java g :: U.frames.tail := hend
    have hW' : U.WarmedH s₂.vm := hW₂
    have hs₂ : s₂ = ((({ U with heap := s₂.heap, slotsUsed := s₂.slotsUsed } : State).setVm s₂.vm).setTop g).pushFrame (.throwing q) := by
      refine e3.trans ?_
      rw [hf₂, State.calling_eq h.top, State.setFrames_setFrames, State.pushFrame, State.frames_setTop _ hr', State.setTop_of_frames _ hr', State.setFrames_setFrames, hr]
      rfl
    have hsame : U.sameButNew ({ U with heap := s₂.heap, slotsUsed := s₂.slotsUsed } : State) L mc ms := by
      refine ⟨?_, q2, q3, q4, q5, q6⟩
      obtain ⟨t, ht, -⟩ := State.frames_cons hr
      show ({ U with heap := s₂.heap, slotsUsed := s₂.slotsUsed } : State) = { U.setFrames U.frames with heap := s₂.heap, slotsUsed := s₂.slotsUsed }
      rw [State.setFrames_self ht]
    subst hg
    refine Or.inr ⟨q, ⟨(({ U with heap := s₂.heap, slotsUsed := s₂.slotsUsed } : State).setVm s₂.vm), Ls ++ L, c0 + mc, s0 + ms⟩,
      ⟨X.admits, X.cas, X.clock, X.frames, X.room, X.hears, X.method, X.code, (X.here.setHeapUsed s₂.heap s₂.slotsUsed).setVm hW'.alike, X.tail, State.WarmedH.trans X.warmed hW', X.limits, X.bytes, X.same.trans (hsame.setVm s.vm)⟩,
      ⟨g, mk, s₂, L, E, ce, rfl, rfl, hx, hce, hcv, hcl, rfl, hL, rfl, rfl⟩, ?_⟩
    show Steps p.tables e below _ (((({ U with heap := s₂.heap, slotsUsed := s₂.slotsUsed } : State).setVm s₂.vm).setTop g).pushFrame (.throwing q))
    rw [← hs₂]
    exact hsteps
end
variable {p : Program} {l : Launch} {e : Env} {R : Room} {s : State} {m : MethodId} {args : Array Value} {below : List Frame} {meth : Method} {c : Code} {T : State} {H : Heap} {locs : List Loc} {cells slots : Nat}
theorem vx_callVX (X : Stand p l e R s m args below meth c T locs cells slots) (hexec : p.tables.exec = Jvm.exec) {own C : String} {index : Nat} {y : MethodName} {bytes : ByteArray} {maxL : Nat} {ret : Option FieldType} {hh : List (Nat × Nat × Nat × Nat)}
    (hown : s.vm.findClass own = some m.cls) (hlink : (Cond.methodLink own index y).before args s = true) (hinst : (Cond.instanceMethod y).before args s = true) (hsel : (Cond.selects C y y).before args s = true)
    (hcode : (Cond.codeWith y bytes maxL ret hh).before args s = true) (hy : y.cls ≠ "java/lang/invoke/MethodHandle" ∧ y.cls ≠ "java/lang/invoke/VarHandle")
    {W9 : Nat} {Pre : Pt → Array Value → Prop} {Post : Pt → Array Value → Option Value → Pt → Prop} {PostX : Pt → Array Value → Addr → Pt → Prop} (hK : vx_Back l R p e below s args y 3 W9 Pre Post PostX)
    {b : Addr} {cellB : Cell} (hcell : T.heap[b]? = some cellB) (hobj : cellB.vm.isStatics = false) (hcls : s.vm.findClass C = some cellB.cls)
    {g : JFrame} (hg : g.method = m) (hsize : g.locals.size = c.maxLocals) {argsL rest : List Value} (hlen : ∀ sig, parseMethodDescriptor y.desc = some sig → argsL.length = sig.parameters.length)
    (hstack : g.stack = argsL.reverse ++ .ref b :: rest) (hW : 2 * g.monitorRoom + (rest.map fun v => v.category).sum ≤ W9) (hdg : decode c.code g.pc = .ok (.invokevirtual index, 3))
    (hpre : ∀ vm₁, s.WarmedH vm₁ → Pre ⟨T.setVm vm₁, locs, cells, slots⟩ (Value.ref b :: argsL).toArray) :
    (∃ (v : Option Value) (vm₁ : Vm) (B : Pt), s.WarmedH vm₁ ∧ Stand p l e R s m args below meth c B.U B.locs B.cells B.slots ∧ Post ⟨T.setVm vm₁, locs, cells, slots⟩ (Value.ref b :: argsL).toArray v B ∧
      ∀ target, Steps p.tables e below (B.U.setTop { g with pc := g.pc + 3, stack := v.toList ++ rest }) target → Steps p.tables e below (T.setTop g) target) ∨
    (∃ (q : Addr) (vm₁ : Vm) (B : Pt), s.WarmedH vm₁ ∧ Stand p l e R s m args below meth c B.U B.locs B.cells B.slots ∧ PostX ⟨T.setVm vm₁, locs, cells, slots⟩ (Value.ref b :: argsL).toArray q B ∧
      Steps p.tables e below (T.setTop g) ((B.U.setTop { g with stack := rest }).pushFrame (.throwing q))) := by
  obtain ⟨mk, methM, hnamed, hmethM, hstM, habM⟩ := Cond.instanceMethod_spec hinst
  obtain ⟨m8, methM', cM, hn8, hmethM', -, -, -, -, -, -, hsigM⟩ := Cond.codeWith_spec hcode
  cases Option.some.inj (hn8.symm.trans hnamed)
  cases hmethM.symm.trans hmethM'
  obtain ⟨c2, r2, m2, q1, q2, q3, q4, kP, hkP, hkPi⟩ := Cond.selects_spec hsel
  cases hcls.symm.trans q1
  cases (State.methodFound?_of_named hnamed hy).symm.trans q2
  cases hnamed.symm.trans q3
  have hselP : selectMethod e.platform s.vm cellB.cls mk = .method mk := by rw [Launch.admits_selectMethod X.admits]; exact q4
  obtain ⟨vm₁, X₁, hstep₁⟩ := X.invokevirtual hexec hown hlink hnamed hmethM hstM hkP hkPi hy (a := b) (cell := cellB) hcell
    (fun z h => by rw [h] at hobj; cases hobj) hselP hmethM habM hkP hkPi (g := g) hg (argsL := argsL) (rest := rest) (hlen _ hsigM) hstack hdg
  rcases hK m meth c ⟨T.setVm vm₁, locs, cells, slots⟩ { g with stack := rest } (.invokevirtual index) mk (Value.ref b :: argsL).toArray X₁ hg hsize hdg hW (X₁.named hnamed) (hpre vm₁ X₁.warmed) with ⟨v, B, X', hpost, hsteps⟩ | ⟨q, B, X', hpost, hsteps⟩
  · exact Or.inl ⟨v, vm₁, B, X₁.warmed, X', hpost, fun target h => hstep₁ _ fun acts => by rw [doInvoke_state]; exact hsteps.trans h⟩
  · exact Or.inr ⟨q, vm₁, B, X₁.warmed, X', hpost, hstep₁ _ fun acts => by rw [doInvoke_state]; exact hsteps⟩
theorem vx_callSX (X : Stand p l e R s m args below meth c T locs cells slots) (hexec : p.tables.exec = Jvm.exec) {own : String} {index : Nat} {y : MethodName} {bytes : ByteArray} {maxL : Nat} {ret : Option FieldType} {hh : List (Nat × Nat × Nat × Nat)}
    (hown : s.vm.findClass own = some m.cls) (hlink : (Cond.methodLink own index y).before args s = true) (hstat : (Cond.static y).before args s = true) (hinit : (Cond.initialized y.cls).before args s = true)
    (hcode : (Cond.codeWith y bytes maxL ret hh).before args s = true) (hy : y.cls ≠ "java/lang/invoke/MethodHandle" ∧ y.cls ≠ "java/lang/invoke/VarHandle")
    {W9 : Nat} {Pre : Pt → Array Value → Prop} {Post : Pt → Array Value → Option Value → Pt → Prop} {PostX : Pt → Array Value → Addr → Pt → Prop} (hK : vx_Back l R p e below s args y 3 W9 Pre Post PostX)
    {g : JFrame} (hg : g.method = m) (hsize : g.locals.size = c.maxLocals) {argsL rest : List Value} (hlen : ∀ sig, parseMethodDescriptor y.desc = some sig → argsL.length = sig.parameters.length)
    (hstack : g.stack = argsL.reverse ++ rest) (hW : 2 * g.monitorRoom + (rest.map fun v => v.category).sum ≤ W9) (hdg : decode c.code g.pc = .ok (.invokestatic index, 3))
    (hpre : ∀ vm₁, s.WarmedH vm₁ → Pre ⟨T.setVm vm₁, locs, cells, slots⟩ argsL.toArray) :
    (∃ (v : Option Value) (vm₁ : Vm) (B : Pt), s.WarmedH vm₁ ∧ Stand p l e R s m args below meth c B.U B.locs B.cells B.slots ∧ Post ⟨T.setVm vm₁, locs, cells, slots⟩ argsL.toArray v B ∧
      ∀ target, Steps p.tables e below (B.U.setTop { g with pc := g.pc + 3, stack := v.toList ++ rest }) target → Steps p.tables e below (T.setTop g) target) ∨
    (∃ (q : Addr) (vm₁ : Vm) (B : Pt), s.WarmedH vm₁ ∧ Stand p l e R s m args below meth c B.U B.locs B.cells B.slots ∧ PostX ⟨T.setVm vm₁, locs, cells, slots⟩ argsL.toArray q B ∧
      Steps p.tables e below (T.setTop g) ((B.U.setTop { g with stack := rest }).pushFrame (.throwing q))) := by
  obtain ⟨mk, methM, cM, hnamed, hmethM, -, -, -, -, -, -, hsigM⟩ := Cond.codeWith_spec hcode
  have hstatic : methM.isStatic = true := Cond.static_spec hnamed hmethM hstat
  obtain ⟨kP, hkP, -⟩ := className_of_methodNamed hnamed
  have hinitP : kP.init = .initialized := Cond.initialized_spec (findClass_of_methodNamed hnamed) hkP hinit
  obtain ⟨vm₁, X₁, hstep₁⟩ := X.invokestatic hexec hown hlink hnamed hmethM hstatic hkP hinitP hy (g := g) hg (argsL := argsL) (rest := rest) (hlen _ hsigM) hstack hdg
  rcases hK m meth c ⟨T.setVm vm₁, locs, cells, slots⟩ { g with stack := rest } (.invokestatic index) mk argsL.toArray X₁ hg hsize hdg hW (X₁.named hnamed) (hpre vm₁ X₁.warmed) with ⟨v, B, X', hpost, hsteps⟩ | ⟨q, B, X', hpost, hsteps⟩
  · exact Or.inl ⟨v, vm₁, B, X₁.warmed, X', hpost, fun target h => hstep₁ _ fun acts => by rw [doInvoke_state]; exact hsteps.trans h⟩
  · exact Or.inr ⟨q, vm₁, B, X₁.warmed, X', hpost, hstep₁ _ fun acts => by rw [doInvoke_state]; exact hsteps⟩
theorem vx_callVW (X : Stand p l e R s m args below meth c T locs cells slots) (hexec : p.tables.exec = Jvm.exec) {own C : String} {index : Nat} {y : MethodName} {bytes : ByteArray} {maxL : Nat} {ret : Option FieldType} {hh : List (Nat × Nat × Nat × Nat)}
    (hown : s.vm.findClass own = some m.cls) (hlink : (Cond.methodLink own index y).before args s = true) (hinst : (Cond.instanceMethod y).before args s = true) (hsel : (Cond.selects C y y).before args s = true)
    (hcode : (Cond.codeWith y bytes maxL ret hh).before args s = true) (hy : y.cls ≠ "java/lang/invoke/MethodHandle" ∧ y.cls ≠ "java/lang/invoke/VarHandle")
    {W9 : Nat} {Pre : Pt → Array Value → Prop} {Post : Pt → Array Value → Option Value → Pt → Prop} (hK : Back l R p e below s args y 3 W9 Pre Post)
    {b : Addr} {cellB : Cell} (hcell : T.heap[b]? = some cellB) (hobj : cellB.vm.isStatics = false) (hcls : s.vm.findClass C = some cellB.cls)
    {g : JFrame} (hg : g.method = m) (hsize : g.locals.size = c.maxLocals) {argsL rest : List Value} (hlen : ∀ sig, parseMethodDescriptor y.desc = some sig → argsL.length = sig.parameters.length)
    (hstack : g.stack = argsL.reverse ++ .ref b :: rest) (hW : 2 * g.monitorRoom + (rest.map fun v => v.category).sum ≤ W9) (hdg : decode c.code g.pc = .ok (.invokevirtual index, 3))
    (hpre : ∀ vm₁, s.WarmedH vm₁ → Pre ⟨T.setVm vm₁, locs, cells, slots⟩ (Value.ref b :: argsL).toArray) :
    ∃ (v : Option Value) (vm₁ : Vm) (B : Pt), s.WarmedH vm₁ ∧ Stand p l e R s m args below meth c B.U B.locs B.cells B.slots ∧ Post ⟨T.setVm vm₁, locs, cells, slots⟩ (Value.ref b :: argsL).toArray v B ∧
      ∀ target, Steps p.tables e below (B.U.setTop { g with pc := g.pc + 3, stack := v.toList ++ rest }) target → Steps p.tables e below (T.setTop g) target := by
  obtain ⟨mk, methM, hnamed, hmethM, hstM, habM⟩ := Cond.instanceMethod_spec hinst
  obtain ⟨m8, methM', cM, hn8, hmethM', -, -, -, -, -, -, hsigM⟩ := Cond.codeWith_spec hcode
  cases Option.some.inj (hn8.symm.trans hnamed)
  cases hmethM.symm.trans hmethM'
  obtain ⟨c2, r2, m2, q1, q2, q3, q4, kP, hkP, hkPi⟩ := Cond.selects_spec hsel
  cases hcls.symm.trans q1
  cases (State.methodFound?_of_named hnamed hy).symm.trans q2
  cases hnamed.symm.trans q3
  have hselP : selectMethod e.platform s.vm cellB.cls mk = .method mk := by rw [Launch.admits_selectMethod X.admits]; exact q4
  obtain ⟨vm₁, X₁, hstep₁⟩ := X.invokevirtual hexec hown hlink hnamed hmethM hstM hkP hkPi hy (a := b) (cell := cellB) hcell
    (fun z h => by rw [h] at hobj; cases hobj) hselP hmethM habM hkP hkPi (g := g) hg (argsL := argsL) (rest := rest) (hlen _ hsigM) hstack hdg
  obtain ⟨v, B, X', hpost, hsteps⟩ := hK m meth c ⟨T.setVm vm₁, locs, cells, slots⟩ { g with stack := rest } (.invokevirtual index) mk (Value.ref b :: argsL).toArray X₁ hg hsize hdg hW (X₁.named hnamed) (hpre vm₁ X₁.warmed)
  exact ⟨v, vm₁, B, X₁.warmed, X', hpost, fun target h => hstep₁ _ fun acts => by rw [doInvoke_state]; exact hsteps.trans h⟩
abbrev vx_CVW (R : Room) (s : State) (args : Array Value) (own C : String) (index : Nat) (y : MethodName) (bytes : ByteArray) (maxL : Nat) (ret : Option FieldType) (hh : List (Nat × Nat × Nat × Nat)) (ws : List Cond) (rm : Room) (mc ms n : Nat) : Prop :=
  (rm.cells = mc ∧ rm.slots = ms ∧ rm.frames + 1 ≤ R.frames ∧ 8 + (maxL + 11) + rm.locals ≤ R.locals ∧ (∀ w ∈ ws, ∀ (a' : Array Value) (U : State), s.WarmedH U.vm → w.before a' U = true) ∧ Cond.codeWith y bytes maxL ret hh ∈ ws) ∧
  (Cond.codeWith y bytes maxL ret hh).before args s = true ∧ (Cond.initialized y.cls).before args s = true ∧ (y.cls ≠ "java/lang/invoke/MethodHandle" ∧ y.cls ≠ "java/lang/invoke/VarHandle") ∧
  (∀ sig, parseMethodDescriptor y.desc = some sig → n = sig.parameters.length) ∧ (Cond.methodLink own index y).before args s = true ∧ (Cond.instanceMethod y).before args s = true ∧ (Cond.selects C y y).before args s = true
theorem vx_cwVW {own C : String} {index maxL mc ms : Nat} {y : MethodName} {bytes : ByteArray} {ret : Option FieldType} {hh : List (Nat × Nat × Nat × Nat)} {Ts ws ws' : List Cond} {rm : Room} (n : Nat) (ht : ∀ w ∈ Ts, w.before args s = true) (hT : GoodIn Ts (wsV own index C y ws)) (hw : ws = Cond.codeWith y bytes maxL ret hh :: ws') (hrc : rm.cells = mc) (hrs : rm.slots = ms)
    (hd : y.cls = C ∧ y.cls ≠ "java/lang/invoke/MethodHandle" ∧ y.cls ≠ "java/lang/invoke/VarHandle" ∧ (parseMethodDescriptor y.desc).map (fun d => d.parameters.length) = some n) (hR : rm.frames + 1 ≤ R.frames ∧ 8 + (maxL + 11) + rm.locals ≤ R.locals) :
    vx_CVW R s args own C index y bytes maxL ret hh ws rm mc ms n := by
  obtain ⟨hC, hd⟩ := hd
  subst hC
  have ok : ∀ w ∈ wsV own index y.cls y ws, w.before args s = true := fun w h => ht w (hT w h).1
  have hG : GoodIn Ts ws := fun w h => hT w (by unfold wsV; exact List.mem_append_right _ h)
  have hc : Cond.codeWith y bytes maxL ret hh ∈ ws := by rw [hw]; exact List.mem_cons_self
  refine ⟨⟨hrc, hrs, hR.1, hR.2, pay_in ht hG, hc⟩, ht _ (hG _ hc).1, ok _ (by simp [wsV]), ⟨hd.1, hd.2.1⟩, fun sig h => ?_, ok _ (by simp [wsV]), ok _ (by simp [wsV]), ok _ (by simp [wsV])⟩
  have h2 := hd.2.2
  rw [h] at h2
  exact (Option.some.inj h2).symm
theorem vx_runVW {y : MethodName} {bytes cc : ByteArray} {maxL nL mc ms n index : Nat} {ret : Option FieldType} {hh : List (Nat × Nat × Nat × Nat)} {ws : List Cond} {rm : Room} {Pc : Array Value → State → Prop} {Qc : Array Value → State → Outcome → State → Prop} {free : Addr → Prop} {Ts : List Cond} {own C : String} {b : Addr} {As rest : List Value} {g : JFrame}
    (S : CallFix p m c cc nL s args Ts own) (hM : Met l y ws rm Pc Qc mc ms free) (cw : vx_CVW R s args own C index y bytes maxL ret hh ws rm mc ms n) (hp : PreV s H C b Pc As)
    (hg : g.method = m) (hn : As.length = n) (hsize : g.locals.size = nL) (hstack : g.stack = As.reverse ++ .ref b :: rest) (hW : 2 * g.monitorRoom + (rest.map fun v => v.category).sum ≤ 8) (hdg : decode cc g.pc = .ok (.invokevirtual index, 3)) (hf : cells + mc ≤ R.cells ∧ slots + ms ≤ R.slots) :
    va_Run p l e R s m args below meth c H locs cells slots mc ms g rest (Qc (Value.ref b :: As).toArray) free := by
  obtain ⟨⟨hrc, hrs, hfr, hlo, hws, hcw⟩, hcode, hini, hy, hlen, hl, hin, hse⟩ := cw
  have hK : Back l R p e below s args y 3 8 (PreOf R mc ms Pc) (PostOf Qc mc ms free) := va_backW (hh := hh) (bytes := bytes) (maxL := maxL) (ret := ret) hM hp.1 hrc hrs hfr hlo hws hcw (fun a' U hW => word_at hW (Or.inl (by first | rfl | simp [Cond.onTables, Cond.keeps, Cond.steady])) hini)
  obtain ⟨hx, hb, hml, ho, -⟩ := S
  obtain ⟨-, ⟨cellB, hcB, hoB, hclB⟩, hPc⟩ := hp
  intro T hT X
  obtain ⟨v, vm₁, ⟨U', l2, c2, s2⟩, hW₁, X', ⟨g', mk, t, L, e1, e2, hq, h1, hL, h2, h3⟩, st⟩ := vx_callVW X hx (C := C) (hh := hh) (bytes := bytes) (maxL := maxL) (ret := ret) ho hl hin hse hcode hy hK (by rw [hT]; exact hcB) hoB hclB hg (hsize.trans hml.symm) (argsL := As) (rest := rest) (fun sig h => hn.trans (hlen sig h)) hstack hW (by rw [hb]; exact hdg)
    (fun vm₁ hW₁ => ⟨hf.1, hf.2, hPc (T.setVm vm₁) hT hW₁⟩)
  dsimp only [Pt.U, Pt.locs, Pt.cells, Pt.slots] at X' e1 e2 h1 h2 h3 st
  subst h1; subst h2; subst h3
  exact ⟨v, (T.setVm vm₁).calling g' mk (Value.ref b :: As).toArray, t, U', L, hT, X', hL, e1, e2, hq, st⟩
section
variable {y : MethodName} {bytes cc : ByteArray} {maxL nL mc ms n index : Nat} {ret : Option FieldType} {ws : List Cond} {rm : Room} {Pc : Array Value → State → Prop} {Qc : Array Value → State → Outcome → State → Prop} {XC : String → State → State → Prop} {free : Addr → Prop} {Ts : List Cond} {own C : String} {b : Addr} {As rest : List Value} {g : JFrame}
theorem vx_runVX {hh : List (Nat × Nat × Nat × Nat)} (S : CallFix p m c cc nL s args Ts own) (hM : vx_Met l y ws rm Pc Qc XC mc ms free) (cw : vx_CVW R s args own C index y bytes maxL ret hh ws rm mc ms n) (hp : PreV s H C b Pc As)
    (hg : g.method = m) (hn : As.length = n) (hsize : g.locals.size = nL) (hstack : g.stack = As.reverse ++ .ref b :: rest) (hW : 2 * g.monitorRoom + (rest.map fun v => v.category).sum ≤ 8) (hdg : decode cc g.pc = .ok (.invokevirtual index, 3)) (hf : cells + mc ≤ R.cells ∧ slots + ms ≤ R.slots) :
    vx_Run p l e R s m args below meth c H locs cells slots mc ms g rest (Qc (Value.ref b :: As).toArray) XC free := by
  obtain ⟨⟨hrc, hrs, hfr, hlo, hws, hcw⟩, hcode, hini, hy, hlen, hl, hin, hse⟩ := cw
  have hK : vx_Back l R p e below s args y 3 8 (PreOf R mc ms Pc) (PostOf Qc mc ms free) (vx_Post XC mc ms free) := vx_backW (hh := hh) (bytes := bytes) (maxL := maxL) (ret := ret) hM hp.1 hrc hrs hfr hlo hws hcw (fun a' U hW => word_at hW (Or.inl (by first | rfl | simp [Cond.onTables, Cond.keeps, Cond.steady])) hini)
  obtain ⟨hx, hb, hml, ho, -⟩ := S
  obtain ⟨-, ⟨cellB, hcB, hoB, hclB⟩, hPc⟩ := hp
  intro T hT X
  rcases vx_callVX X hx (C := C) (hh := hh) (bytes := bytes) (maxL := maxL) (ret := ret) ho hl hin hse hcode hy hK (by rw [hT]; exact hcB) hoB hclB hg (hsize.trans hml.symm) (argsL := As) (rest := rest) (fun sig h => hn.trans (hlen sig h)) hstack hW (by rw [hb]; exact hdg)
    (fun vm₁ hW₁ => ⟨hf.1, hf.2, hPc (T.setVm vm₁) hT hW₁⟩) with ⟨v, vm₁, ⟨U', l2, c2, s2⟩, hW₁, X', ⟨g', mk, t, L, e1, e2, hq, h1, hL, h2, h3⟩, st⟩ | ⟨q, vm₁, ⟨U', l2, c2, s2⟩, hW₁, X', ⟨g', mk, t, L, E, ce, e1, e2, hq, hce, hcv, hcl, h1, hL, h2, h3⟩, st⟩
  · dsimp only [Pt.U, Pt.locs, Pt.cells, Pt.slots] at X' e1 e2 h1 h2 h3 st
    subst h1; subst h2; subst h3
    exact Or.inl ⟨v, (T.setVm vm₁).calling g' mk (Value.ref b :: As).toArray, t, U', L, hT, X', hL, e1, e2, hq, st⟩
  · dsimp only [Pt.U, Pt.locs, Pt.cells, Pt.slots] at X' e1 e2 h1 h2 h3 st hcl
    subst h1; subst h2; subst h3
    exact Or.inr ⟨q, (T.setVm vm₁).calling g' mk (Value.ref b :: As).toArray, t, U', L, E, ce, hT, X', hL, e1, e2, hq, hce, hcv, vx_cls hW₁ hcl, st⟩
theorem vx_runSX {hh : List (Nat × Nat × Nat × Nat)} (S : CallFix p m c cc nL s args Ts own) (hM : vx_Met l y ws rm Pc Qc XC mc ms free) (cw : vx_CSW R s args own index y bytes maxL ret hh ws rm mc ms n) (hp : PreS s H Pc As)
    (hg : g.method = m) (hn : As.length = n) (hsize : g.locals.size = nL) (hstack : g.stack = As.reverse ++ rest) (hW : 2 * g.monitorRoom + (rest.map fun v => v.category).sum ≤ 8) (hdg : decode cc g.pc = .ok (.invokestatic index, 3)) (hf : cells + mc ≤ R.cells ∧ slots + ms ≤ R.slots) :
    vx_Run p l e R s m args below meth c H locs cells slots mc ms g rest (Qc As.toArray) XC free := by
  obtain ⟨⟨hrc, hrs, hfr, hlo, hws, hcw⟩, hcode, hini, hy, hlen, hl, hstt⟩ := cw
  have hK : vx_Back l R p e below s args y 3 8 (PreOf R mc ms Pc) (PostOf Qc mc ms free) (vx_Post XC mc ms free) := vx_backW (hh := hh) (bytes := bytes) (maxL := maxL) (ret := ret) hM hp.1 hrc hrs hfr hlo hws hcw (fun a' U hW => word_at hW (Or.inl (by first | rfl | simp [Cond.onTables, Cond.keeps, Cond.steady])) hini)
  obtain ⟨hx, hb, hml, ho, -⟩ := S
  intro T hT X
  rcases vx_callSX X hx (hh := hh) (bytes := bytes) (maxL := maxL) (ret := ret) ho hl hstt hini hcode hy hK hg (hsize.trans hml.symm) (argsL := As) (rest := rest) (fun sig h => hn.trans (hlen sig h)) hstack hW (by rw [hb]; exact hdg)
    (fun vm₁ hW₁ => ⟨hf.1, hf.2, hp.2 (T.setVm vm₁) hT hW₁⟩) with ⟨v, vm₁, ⟨U', l2, c2, s2⟩, hW₁, X', ⟨g', mk, t, L, e1, e2, hq, h1, hL, h2, h3⟩, st⟩ | ⟨q, vm₁, ⟨U', l2, c2, s2⟩, hW₁, X', ⟨g', mk, t, L, E, ce, e1, e2, hq, hce, hcv, hcl, h1, hL, h2, h3⟩, st⟩
  · dsimp only [Pt.U, Pt.locs, Pt.cells, Pt.slots] at X' e1 e2 h1 h2 h3 st
    subst h1; subst h2; subst h3
    exact Or.inl ⟨v, (T.setVm vm₁).calling g' mk As.toArray, t, U', L, hT, X', hL, e1, e2, hq, st⟩
  · dsimp only [Pt.U, Pt.locs, Pt.cells, Pt.slots] at X' e1 e2 h1 h2 h3 st hcl
    subst h1; subst h2; subst h3
    exact Or.inr ⟨q, (T.setVm vm₁).calling g' mk As.toArray, t, U', L, E, ce, hT, X', hL, e1, e2, hq, hce, hcv, vx_cls hW₁ hcl, st⟩
end
end VXH
theorem vx_ofWH {l : Launch} {y : MethodName} {ws ws' : List Cond} {rm : Room} {Pc : Array Value → State → Prop} {Qc : Array Value → State → Outcome → State → Prop} {XC : String → State → State → Prop} {mc ms : Nat} {free : Addr → Prop} {cc : ByteArray} {maxL : Nat} {ret : Option FieldType} {hh : List (Nat × Nat × Nat × Nat)}
    (hy : plainName y.cls = true) (hw : ws = Cond.codeWith y cc maxL ret hh :: ws')
    (body : ∀ p e s m args below meth c s₁, BodyLoose p l y (headSpec ws rm) cc maxL ret e s m args below meth c s₁ → c.maxLocals = maxL → Pc args s →
      W p l e (headSpec ws rm).room s m args below meth c s.heap [] 0 0 (vx_MQ below Qc XC args s mc ms free) (entryFrame m args maxL)) : vx_Met l y ws rm Pc Qc XC mc ms free := by
  refine MetFree.of_bodyS (code := cc) (maxLocals := maxL) (ret := ret) hy ?_ ?_
  · intro args s m h hn
    obtain ⟨m9, meth, c, hn9, h1, h2, h3, h4, -, h5, h6, -⟩ := Cond.codeWith_spec (atoms_spec (ws := ws) h _ (by rw [hw]; exact List.mem_cons_self))
    cases hn.symm.trans hn9
    exact ⟨meth, c, h1, h2, h3, h4, h5, h6⟩
  · intro p e s m args below meth c s₁ B hml hP _
    have hh0 : s₁.heap = s.heap := by rw [B.state]; rfl
    obtain ⟨t, a1, o, b1, b2, b3⟩ := body p e s m args below meth c s₁ B hml hP s₁ hh0 (Stand.of_body B)
    exact ⟨t, o, a1, b1, b2, b3⟩
/-! ===== END ===== -/

/-! ===== BEGIN printed: names, fields, word lists, decode rows ===== -/
end
section
def RX0 : String := "Bumpherald$Fewest"
def TX0 : u_T := fun k => match k with
  | _ => ("", "", "", false)
def tyX0 : Nat → FieldType := fun k => match k with
  | _ => .int
abbrev wsX00 : List Cond := u_ws RX0 TX0 0
theorem nmX0 : ∀ a, a < 0 → ∀ b, b < 0 → a ≠ b → (TX0 a).2.1 ≠ (TX0 b).2.1 := by decide +kernel
theorem tyX0_ok : ∀ k, k < 0 → parseFieldDescriptor (TX0 k).2.2.1 = some (tyX0 k) := by decide +kernel
abbrev cX0_byNeeds : ByteArray := prog_2_method_2_code
def yX0_byNeeds : MethodName := ⟨RX0, "byNeeds", "(LBumpherald$Raises;I)I"⟩
abbrev cX0_byAllSets : ByteArray := prog_2_method_3_code
def yX0_byAllSets : MethodName := ⟨RX0, "byAllSets", "(LBumpherald$Raises;I)I"⟩
def RX1 : String := "Bumpherald$Freezes"
def TX1 : u_T := fun k => match k with
  | 0 => ("Bumpherald$Freezes", "sets", "[I", true)
  | 1 => ("Bumpherald$Freezes", "firstDays", "[I", true)
  | 2 => ("Bumpherald$Freezes", "lastDays", "[I", true)
  | _ => ("Bumpherald$Freezes", "count", "I", false)
def tyX1 : Nat → FieldType := fun k => match k with
  | 0 => .array .int
  | 1 => .array .int
  | 2 => .array .int
  | _ => .int
abbrev wsX10 : List Cond := u_ws RX1 TX1 4
theorem nmX1 : ∀ a, a < 4 → ∀ b, b < 4 → a ≠ b → (TX1 a).2.1 ≠ (TX1 b).2.1 := by decide +kernel
theorem tyX1_ok : ∀ k, k < 4 → parseFieldDescriptor (TX1 k).2.2.1 = some (tyX1 k) := by decide +kernel
abbrev cX1_init : ByteArray := prog_3_method_1_code
def yX1_init : MethodName := ⟨RX1, "<init>", "()V"⟩
abbrev cX1_add : ByteArray := prog_3_method_2_code
def yX1_add : MethodName := ⟨RX1, "add", "(III)I"⟩
abbrev cX1_isFrozen : ByteArray := prog_3_method_3_code
def yX1_isFrozen : MethodName := ⟨RX1, "isFrozen", "(II)Z"⟩
def RX2 : String := "Bumpherald$Herding"
def TX2 : u_T := fun k => match k with
  | 0 => ("Bumpherald$Herding", "raises", "LBumpherald$Raises;", true)
  | 1 => ("Bumpherald$Herding", "reviewers", "LBumpherald$Reviewers;", true)
  | 2 => ("Bumpherald$Herding", "waiting", "[Z", true)
  | _ => ("Bumpherald$Herding", "patience", "I", false)
def tyX2 : Nat → FieldType := fun k => match k with
  | 0 => .object "Bumpherald$Raises"
  | 1 => .object "Bumpherald$Reviewers"
  | 2 => .array .boolean
  | _ => .int
abbrev wsX20 : List Cond := u_ws RX2 TX2 4
theorem nmX2 : ∀ a, a < 4 → ∀ b, b < 4 → a ≠ b → (TX2 a).2.1 ≠ (TX2 b).2.1 := by decide +kernel
theorem tyX2_ok : ∀ k, k < 4 → parseFieldDescriptor (TX2 k).2.2.1 = some (tyX2 k) := by decide +kernel
abbrev cX2_init : ByteArray := prog_4_method_1_code
def yX2_init : MethodName := ⟨RX2, "<init>", "(LBumpherald$Raises;LBumpherald$Reviewers;)V"⟩
abbrev cX2_joinSleepers : ByteArray := prog_4_method_2_code
def yX2_joinSleepers : MethodName := ⟨RX2, "joinSleepers", "(I)V"⟩
abbrev cX2_sleepsTooLong : ByteArray := prog_4_method_3_code
def yX2_sleepsTooLong : MethodName := ⟨RX2, "sleepsTooLong", "(II)Z"⟩
abbrev cX2_join : ByteArray := prog_4_method_4_code
def yX2_join : MethodName := ⟨RX2, "join", "(II)V"⟩
abbrev cX2_bestPartner : ByteArray := prog_4_method_5_code
def yX2_bestPartner : MethodName := ⟨RX2, "bestPartner", "(I)I"⟩
abbrev cX2_part : ByteArray := prog_4_method_6_code
def yX2_part : MethodName := ⟨RX2, "part", "(I)V"⟩
abbrev cX2_leave : ByteArray := prog_4_method_7_code
def yX2_leave : MethodName := ⟨RX2, "leave", "(I)V"⟩
abbrev cX2_mateOf : ByteArray := prog_4_method_8_code
def yX2_mateOf : MethodName := ⟨RX2, "mateOf", "(I)I"⟩
def RX3 : String := "Bumpherald$Packages"
def TX3 : u_T := fun k => match k with
  | 0 => ("Bumpherald$Packages", "versions", "[I", true)
  | 1 => ("Bumpherald$Packages", "planned", "[I", true)
  | 2 => ("Bumpherald$Packages", "needOnes", "[I", true)
  | 3 => ("Bumpherald$Packages", "needOthers", "[I", true)
  | 4 => ("Bumpherald$Packages", "needLeasts", "[I", true)
  | 5 => ("Bumpherald$Packages", "needMosts", "[I", true)
  | 6 => ("Bumpherald$Packages", "count", "I", false)
  | _ => ("Bumpherald$Packages", "needCount", "I", false)
def tyX3 : Nat → FieldType := fun k => match k with
  | 0 => .array .int
  | 1 => .array .int
  | 2 => .array .int
  | 3 => .array .int
  | 4 => .array .int
  | 5 => .array .int
  | 6 => .int
  | _ => .int
abbrev wsX30 : List Cond := u_ws RX3 TX3 8
theorem nmX3 : ∀ a, a < 8 → ∀ b, b < 8 → a ≠ b → (TX3 a).2.1 ≠ (TX3 b).2.1 := by decide +kernel
theorem tyX3_ok : ∀ k, k < 8 → parseFieldDescriptor (TX3 k).2.2.1 = some (tyX3 k) := by decide +kernel
abbrev cX3_init : ByteArray := prog_5_method_1_code
def yX3_init : MethodName := ⟨RX3, "<init>", "()V"⟩
abbrev cX3_add : ByteArray := prog_5_method_2_code
def yX3_add : MethodName := ⟨RX3, "add", "(I)I"⟩
abbrev cX3_addNeed : ByteArray := prog_5_method_3_code
def yX3_addNeed : MethodName := ⟨RX3, "addNeed", "(IIII)I"⟩
abbrev cX3_startPlan : ByteArray := prog_5_method_4_code
def yX3_startPlan : MethodName := ⟨RX3, "startPlan", "()V"⟩
abbrev cX3_failingInPlan : ByteArray := prog_5_method_5_code
def yX3_failingInPlan : MethodName := ⟨RX3, "failingInPlan", "()I"⟩
abbrev cX3_firstFailingInPlan : ByteArray := prog_5_method_6_code
def yX3_firstFailingInPlan : MethodName := ⟨RX3, "firstFailingInPlan", "()I"⟩
abbrev cX3_holdsInPlan : ByteArray := prog_5_method_7_code
def yX3_holdsInPlan : MethodName := ⟨RX3, "holdsInPlan", "(I)Z"⟩
def RX4 : String := "Bumpherald$Raises"
def TX4 : u_T := fun k => match k with
  | 0 => ("Bumpherald$Raises", "packages", "LBumpherald$Packages;", true)
  | 1 => ("Bumpherald$Raises", "packs", "[I", true)
  | 2 => ("Bumpherald$Raises", "versions", "[I", true)
  | 3 => ("Bumpherald$Raises", "risks", "[I", true)
  | 4 => ("Bumpherald$Raises", "days", "[I", true)
  | 5 => ("Bumpherald$Raises", "states", "[I", true)
  | 6 => ("Bumpherald$Raises", "reviewers", "[I", true)
  | 7 => ("Bumpherald$Raises", "approved", "[Z", true)
  | 8 => ("Bumpherald$Raises", "groups", "[I", true)
  | 9 => ("Bumpherald$Raises", "open", "[I", true)
  | 10 => ("Bumpherald$Raises", "count", "I", false)
  | _ => ("Bumpherald$Raises", "openCount", "I", false)
def tyX4 : Nat → FieldType := fun k => match k with
  | 0 => .object "Bumpherald$Packages"
  | 1 => .array .int
  | 2 => .array .int
  | 3 => .array .int
  | 4 => .array .int
  | 5 => .array .int
  | 6 => .array .int
  | 7 => .array .boolean
  | 8 => .array .int
  | 9 => .array .int
  | 10 => .int
  | _ => .int
abbrev wsX40 : List Cond := u_ws RX4 TX4 12
theorem nmX4 : ∀ a, a < 12 → ∀ b, b < 12 → a ≠ b → (TX4 a).2.1 ≠ (TX4 b).2.1 := by decide +kernel
theorem tyX4_ok : ∀ k, k < 12 → parseFieldDescriptor (TX4 k).2.2.1 = some (tyX4 k) := by decide +kernel
abbrev cX4_init : ByteArray := prog_6_method_1_code
def yX4_init : MethodName := ⟨RX4, "<init>", "(LBumpherald$Packages;)V"⟩
abbrev cX4_add : ByteArray := prog_6_method_2_code
def yX4_add : MethodName := ⟨RX4, "add", "(IIII)I"⟩
abbrev cX4_end : ByteArray := prog_6_method_3_code
def yX4_end : MethodName := ⟨RX4, "end", "(II)V"⟩
abbrev cX4_listOpen : ByteArray := prog_6_method_4_code
def yX4_listOpen : MethodName := ⟨RX4, "listOpen", "()V"⟩
abbrev cX4_isIn : ByteArray := prog_6_method_5_code
def yX4_isIn : MethodName := ⟨RX4, "isIn", "(II)Z"⟩
abbrev cX4_bitOf : ByteArray := prog_6_method_6_code
def yX4_bitOf : MethodName := ⟨RX4, "bitOf", "(I)I"⟩
abbrev cX4_bitOfPackage : ByteArray := prog_6_method_7_code
def yX4_bitOfPackage : MethodName := ⟨RX4, "bitOfPackage", "(I)I"⟩
abbrev cX4_groupOf : ByteArray := prog_6_method_8_code
def yX4_groupOf : MethodName := ⟨RX4, "groupOf", "(I)I"⟩
abbrev cX4_group : ByteArray := prog_6_method_9_code
def yX4_group : MethodName := ⟨RX4, "group", "(I)V"⟩
abbrev cX4_areApproved : ByteArray := prog_6_method_10_code
def yX4_areApproved : MethodName := ⟨RX4, "areApproved", "(I)Z"⟩
abbrev cX4_packagesOf : ByteArray := prog_6_method_11_code
def yX4_packagesOf : MethodName := ⟨RX4, "packagesOf", "(I)I"⟩
abbrev cX4_release : ByteArray := prog_6_method_12_code
def yX4_release : MethodName := ⟨RX4, "release", "(I)V"⟩
abbrev cX4_failing : ByteArray := prog_6_method_13_code
def yX4_failing : MethodName := ⟨RX4, "failing", "(I)I"⟩
abbrev cX4_firstFailing : ByteArray := prog_6_method_14_code
def yX4_firstFailing : MethodName := ⟨RX4, "firstFailing", "(I)I"⟩
abbrev cX4_plan : ByteArray := prog_6_method_15_code
def yX4_plan : MethodName := ⟨RX4, "plan", "(I)V"⟩
def RX5 : String := "Bumpherald$Reviewers"
def TX5 : u_T := fun k => match k with
  | 0 => ("Bumpherald$Reviewers", "raises", "LBumpherald$Raises;", true)
  | _ => ("Bumpherald$Reviewers", "trusts", "[I", true)
def tyX5 : Nat → FieldType := fun k => match k with
  | 0 => .object "Bumpherald$Raises"
  | _ => .array .int
abbrev wsX50 : List Cond := u_ws RX5 TX5 2
theorem nmX5 : ∀ a, a < 2 → ∀ b, b < 2 → a ≠ b → (TX5 a).2.1 ≠ (TX5 b).2.1 := by decide +kernel
theorem tyX5_ok : ∀ k, k < 2 → parseFieldDescriptor (TX5 k).2.2.1 = some (tyX5 k) := by decide +kernel
abbrev cX5_init : ByteArray := prog_7_method_1_code
def yX5_init : MethodName := ⟨RX5, "<init>", "(LBumpherald$Raises;)V"⟩
abbrev cX5_loadWithout : ByteArray := prog_7_method_2_code
def yX5_loadWithout : MethodName := ⟨RX5, "loadWithout", "(II)I"⟩
abbrev cX5_giveAnew : ByteArray := prog_7_method_3_code
def yX5_giveAnew : MethodName := ⟨RX5, "giveAnew", "(I)V"⟩
abbrev cX5_hasOwnReviewer : ByteArray := prog_7_method_4_code
def yX5_hasOwnReviewer : MethodName := ⟨RX5, "hasOwnReviewer", "(I)Z"⟩
abbrev cX5_reviewsAnother : ByteArray := prog_7_method_5_code
def yX5_reviewsAnother : MethodName := ⟨RX5, "reviewsAnother", "(III)Z"⟩
abbrev cX5_bestFor : ByteArray := prog_7_method_6_code
def yX5_bestFor : MethodName := ⟨RX5, "bestFor", "(I)I"⟩
abbrev cX5_give : ByteArray := prog_7_method_7_code
def yX5_give : MethodName := ⟨RX5, "give", "(II)V"⟩
def RX6 : String := "Bumpherald"
def TX6 : u_T := fun k => match k with
  | 0 => ("Bumpherald", "packages", "LBumpherald$Packages;", true)
  | 1 => ("Bumpherald", "freezes", "LBumpherald$Freezes;", true)
  | 2 => ("Bumpherald", "raises", "LBumpherald$Raises;", true)
  | 3 => ("Bumpherald", "reviewers", "LBumpherald$Reviewers;", true)
  | 4 => ("Bumpherald", "herding", "LBumpherald$Herding;", true)
  | _ => ("Bumpherald", "today", "I", false)
def tyX6 : Nat → FieldType := fun k => match k with
  | 0 => .object "Bumpherald$Packages"
  | 1 => .object "Bumpherald$Freezes"
  | 2 => .object "Bumpherald$Raises"
  | 3 => .object "Bumpherald$Reviewers"
  | 4 => .object "Bumpherald$Herding"
  | _ => .int
abbrev wsX60 : List Cond := u_ws RX6 TX6 6
theorem nmX6 : ∀ a, a < 6 → ∀ b, b < 6 → a ≠ b → (TX6 a).2.1 ≠ (TX6 b).2.1 := by decide +kernel
theorem tyX6_ok : ∀ k, k < 6 → parseFieldDescriptor (TX6 k).2.2.1 = some (tyX6 k) := by decide +kernel
abbrev cX6_init : ByteArray := prog_1_method_1_code
def yX6_init : MethodName := ⟨RX6, "<init>", "()V"⟩
abbrev cX6_pack : ByteArray := prog_1_method_2_code
def yX6_pack : MethodName := ⟨RX6, "pack", "(I)I"⟩
abbrev cX6_need : ByteArray := prog_1_method_3_code
def yX6_need : MethodName := ⟨RX6, "need", "(IIII)I"⟩
abbrev cX6_trust : ByteArray := prog_1_method_4_code
def yX6_trust : MethodName := ⟨RX6, "trust", "(II)I"⟩
abbrev cX6_patience : ByteArray := prog_1_method_5_code
def yX6_patience : MethodName := ⟨RX6, "patience", "(I)I"⟩
abbrev cX6_freeze : ByteArray := prog_1_method_6_code
def yX6_freeze : MethodName := ⟨RX6, "freeze", "(III)I"⟩
abbrev cX6_raise : ByteArray := prog_1_method_7_code
def yX6_raise : MethodName := ⟨RX6, "raise", "(III)I"⟩
abbrev cX6_approve : ByteArray := prog_1_method_8_code
def yX6_approve : MethodName := ⟨RX6, "approve", "(I)Z"⟩
abbrev cX6_land : ByteArray := prog_1_method_9_code
def yX6_land : MethodName := ⟨RX6, "land", "(IZ)I"⟩
abbrev cX6_close : ByteArray := prog_1_method_10_code
def yX6_close : MethodName := ⟨RX6, "close", "(I)V"⟩
abbrev cX6_pass : ByteArray := prog_1_method_11_code
def yX6_pass : MethodName := ⟨RX6, "pass", "(I)I"⟩
abbrev cX6_day : ByteArray := prog_1_method_12_code
def yX6_day : MethodName := ⟨RX6, "day", "()I"⟩
abbrev cX6_version : ByteArray := prog_1_method_13_code
def yX6_version : MethodName := ⟨RX6, "version", "(I)I"⟩
abbrev cX6_raiseOf : ByteArray := prog_1_method_14_code
def yX6_raiseOf : MethodName := ⟨RX6, "raiseOf", "(II)I"⟩
abbrev cX6_fails : ByteArray := prog_1_method_15_code
def yX6_fails : MethodName := ⟨RX6, "fails", "(I)I"⟩
abbrev cX6_canLand : ByteArray := prog_1_method_16_code
def yX6_canLand : MethodName := ⟨RX6, "canLand", "(I)Z"⟩
abbrev cX6_load : ByteArray := prog_1_method_17_code
def yX6_load : MethodName := ⟨RX6, "load", "(I)I"⟩
abbrev cX6_fewest : ByteArray := prog_1_method_18_code
def yX6_fewest : MethodName := ⟨RX6, "fewest", "(I)I"⟩
abbrev cX6_fewestAnew : ByteArray := prog_1_method_19_code
def yX6_fewestAnew : MethodName := ⟨RX6, "fewestAnew", "(I)I"⟩
abbrev cX6_told : ByteArray := prog_1_method_20_code
def yX6_told : MethodName := ⟨RX6, "told", "(II)C"⟩
abbrev cX6_isWithin : ByteArray := prog_1_method_21_code
def yX6_isWithin : MethodName := ⟨RX6, "isWithin", "(III)Z"⟩
abbrev cX6_checkPackage : ByteArray := prog_1_method_22_code
def yX6_checkPackage : MethodName := ⟨RX6, "checkPackage", "(I)V"⟩
abbrev cX6_checkReviewer : ByteArray := prog_1_method_23_code
def yX6_checkReviewer : MethodName := ⟨RX6, "checkReviewer", "(I)V"⟩
abbrev cX6_checkRaise : ByteArray := prog_1_method_24_code
def yX6_checkRaise : MethodName := ⟨RX6, "checkRaise", "(I)V"⟩
abbrev cX6_checkOpen : ByteArray := prog_1_method_25_code
def yX6_checkOpen : MethodName := ⟨RX6, "checkOpen", "(I)V"⟩
abbrev cX6_isLandable : ByteArray := prog_1_method_26_code
def yX6_isLandable : MethodName := ⟨RX6, "isLandable", "(I)Z"⟩
def RX7 : String := "BumpheraldModel"
def TX7 : u_T := fun k => match k with
  | 0 => ("BumpheraldModel", "thrown", "I", false)
  | 1 => ("BumpheraldModel", "day", "I", false)
  | 2 => ("BumpheraldModel", "packs", "I", false)
  | 3 => ("BumpheraldModel", "version", "[I", true)
  | 4 => ("BumpheraldModel", "needs", "I", false)
  | 5 => ("BumpheraldModel", "needing", "[I", true)
  | 6 => ("BumpheraldModel", "needed", "[I", true)
  | 7 => ("BumpheraldModel", "least", "[I", true)
  | 8 => ("BumpheraldModel", "most", "[I", true)
  | 9 => ("BumpheraldModel", "trusts", "[I", true)
  | 10 => ("BumpheraldModel", "patience", "I", false)
  | 11 => ("BumpheraldModel", "freezes", "I", false)
  | 12 => ("BumpheraldModel", "frozen", "[I", true)
  | 13 => ("BumpheraldModel", "from", "[I", true)
  | 14 => ("BumpheraldModel", "to", "[I", true)
  | 15 => ("BumpheraldModel", "raises", "I", false)
  | 16 => ("BumpheraldModel", "state", "[I", true)
  | 17 => ("BumpheraldModel", "pack", "[I", true)
  | 18 => ("BumpheraldModel", "target", "[I", true)
  | 19 => ("BumpheraldModel", "risk", "[I", true)
  | 20 => ("BumpheraldModel", "made", "[I", true)
  | 21 => ("BumpheraldModel", "group", "[I", true)
  | 22 => ("BumpheraldModel", "reviewer", "[I", true)
  | 23 => ("BumpheraldModel", "isApproved", "[Z", true)
  | _ => ("BumpheraldModel", "would", "[I", true)
def tyX7 : Nat → FieldType := fun k => match k with
  | 0 => .int
  | 1 => .int
  | 2 => .int
  | 3 => .array .int
  | 4 => .int
  | 5 => .array .int
  | 6 => .array .int
  | 7 => .array .int
  | 8 => .array .int
  | 9 => .array .int
  | 10 => .int
  | 11 => .int
  | 12 => .array .int
  | 13 => .array .int
  | 14 => .array .int
  | 15 => .int
  | 16 => .array .int
  | 17 => .array .int
  | 18 => .array .int
  | 19 => .array .int
  | 20 => .array .int
  | 21 => .array .int
  | 22 => .array .int
  | 23 => .array .boolean
  | _ => .array .int
abbrev wsX70 : List Cond := u_ws RX7 TX7 25
theorem nmX7 : ∀ a, a < 25 → ∀ b, b < 25 → a ≠ b → (TX7 a).2.1 ≠ (TX7 b).2.1 := by decide +kernel
theorem tyX7_ok : ∀ k, k < 25 → parseFieldDescriptor (TX7 k).2.2.1 = some (tyX7 k) := by decide +kernel
abbrev cX7_init : ByteArray := prog_9_method_1_code
def yX7_init : MethodName := ⟨RX7, "<init>", "()V"⟩
abbrev cX7_thrown : ByteArray := prog_9_method_2_code
def yX7_thrown : MethodName := ⟨RX7, "thrown", "()I"⟩
abbrev cX7_in : ByteArray := prog_9_method_3_code
def yX7_in : MethodName := ⟨RX7, "in", "(III)Z"⟩
abbrev cX7_refused : ByteArray := prog_9_method_4_code
def yX7_refused : MethodName := ⟨RX7, "refused", "(I)Z"⟩
abbrev cX7_isPack : ByteArray := prog_9_method_5_code
def yX7_isPack : MethodName := ⟨RX7, "isPack", "(I)Z"⟩
abbrev cX7_isRaise : ByteArray := prog_9_method_6_code
def yX7_isRaise : MethodName := ⟨RX7, "isRaise", "(I)Z"⟩
abbrev cX7_isReviewer : ByteArray := prog_9_method_8_code
def yX7_isReviewer : MethodName := ⟨RX7, "isReviewer", "(I)Z"⟩
abbrev cX7_pack : ByteArray := prog_9_method_9_code
def yX7_pack : MethodName := ⟨RX7, "pack", "(I)I"⟩
abbrev cX7_need : ByteArray := prog_9_method_10_code
def yX7_need : MethodName := ⟨RX7, "need", "(IIII)I"⟩
abbrev cX7_trust : ByteArray := prog_9_method_11_code
def yX7_trust : MethodName := ⟨RX7, "trust", "(II)I"⟩
abbrev cX7_patience : ByteArray := prog_9_method_12_code
def yX7_patience : MethodName := ⟨RX7, "patience", "(I)I"⟩
abbrev cX7_freeze : ByteArray := prog_9_method_13_code
def yX7_freeze : MethodName := ⟨RX7, "freeze", "(III)I"⟩
abbrev cX7_failing : ByteArray := prog_9_method_14_code
def yX7_failing : MethodName := ⟨RX7, "failing", "()I"⟩
abbrev cX7_asNow : ByteArray := prog_9_method_15_code
def yX7_asNow : MethodName := ⟨RX7, "asNow", "()V"⟩
abbrev cX7_failsWith : ByteArray := prog_9_method_16_code
def yX7_failsWith : MethodName := ⟨RX7, "failsWith", "(II)I"⟩
abbrev cX7_sizeOf : ByteArray := prog_9_method_17_code
def yX7_sizeOf : MethodName := ⟨RX7, "sizeOf", "(I)I"⟩
abbrev cX7_loadOf : ByteArray := prog_9_method_18_code
def yX7_loadOf : MethodName := ⟨RX7, "loadOf", "(II)I"⟩
abbrev cX7_has : ByteArray := prog_9_method_19_code
def yX7_has : MethodName := ⟨RX7, "has", "(IIII)Z"⟩
abbrev cX7_give : ByteArray := prog_9_method_20_code
def yX7_give : MethodName := ⟨RX7, "give", "(I)V"⟩
abbrev cX7_settle : ByteArray := prog_9_method_21_code
def yX7_settle : MethodName := ⟨RX7, "settle", "(I)V"⟩
abbrev cX7_open : ByteArray := prog_9_method_22_code
def yX7_open : MethodName := ⟨RX7, "open", "()I"⟩
abbrev cX7_raise : ByteArray := prog_9_method_23_code
def yX7_raise : MethodName := ⟨RX7, "raise", "(III)I"⟩
abbrev cX7_approve : ByteArray := prog_9_method_24_code
def yX7_approve : MethodName := ⟨RX7, "approve", "(I)Z"⟩
abbrev cX7_landable : ByteArray := prog_9_method_25_code
def yX7_landable : MethodName := ⟨RX7, "landable", "(I)Z"⟩
abbrev cX7_land : ByteArray := prog_9_method_26_code
def yX7_land : MethodName := ⟨RX7, "land", "(IZ)I"⟩
abbrev cX7_close : ByteArray := prog_9_method_27_code
def yX7_close : MethodName := ⟨RX7, "close", "(I)V"⟩
abbrev cX7_oldest : ByteArray := prog_9_method_28_code
def yX7_oldest : MethodName := ⟨RX7, "oldest", "(I)I"⟩
abbrev cX7_wake : ByteArray := prog_9_method_29_code
def yX7_wake : MethodName := ⟨RX7, "wake", "(I)V"⟩
abbrev cX7_pass : ByteArray := prog_9_method_30_code
def yX7_pass : MethodName := ⟨RX7, "pass", "(I)I"⟩
abbrev cX7_day : ByteArray := prog_9_method_31_code
def yX7_day : MethodName := ⟨RX7, "day", "()I"⟩
abbrev cX7_version : ByteArray := prog_9_method_32_code
def yX7_version : MethodName := ⟨RX7, "version", "(I)I"⟩
abbrev cX7_raiseOf : ByteArray := prog_9_method_33_code
def yX7_raiseOf : MethodName := ⟨RX7, "raiseOf", "(II)I"⟩
abbrev cX7_fails : ByteArray := prog_9_method_34_code
def yX7_fails : MethodName := ⟨RX7, "fails", "(I)I"⟩
abbrev cX7_canLand : ByteArray := prog_9_method_35_code
def yX7_canLand : MethodName := ⟨RX7, "canLand", "(I)Z"⟩
abbrev cX7_load : ByteArray := prog_9_method_36_code
def yX7_load : MethodName := ⟨RX7, "load", "(I)I"⟩
abbrev cX7_fewest : ByteArray := prog_9_method_37_code
def yX7_fewest : MethodName := ⟨RX7, "fewest", "(I)I"⟩
abbrev cX7_fewestAnew : ByteArray := prog_9_method_38_code
def yX7_fewestAnew : MethodName := ⟨RX7, "fewestAnew", "(I)I"⟩
abbrev cX7_told : ByteArray := prog_9_method_39_code
def yX7_told : MethodName := ⟨RX7, "told", "(II)C"⟩
def RJ6 : String := "java/lang/Integer"
def TJ6 : u_T := fun k => match k with
  | _ => ("", "", "", false)
def tyJ6 : Nat → FieldType := fun k => match k with
  | _ => .int
abbrev wsJ60 : List Cond := u_ws RJ6 TJ6 0
theorem nmJ6 : ∀ a, a < 0 → ∀ b, b < 0 → a ≠ b → (TJ6 a).2.1 ≠ (TJ6 b).2.1 := by decide +kernel
theorem tyJ6_ok : ∀ k, k < 0 → parseFieldDescriptor (TJ6 k).2.2.1 = some (tyJ6 k) := by decide +kernel
abbrev cJ6_bitCount_0f7a4 : ByteArray := prog_14_method_49_code
def yJ6_bitCount_0f7a4 : MethodName := ⟨RJ6, "bitCount", "(I)I"⟩
def RJ0 : String := "java/lang/String"
def TJ0 : u_T := fun k => match k with
  | _ => ("", "", "", false)
def tyJ0 : Nat → FieldType := fun k => match k with
  | _ => .int
abbrev wsJ00 : List Cond := u_ws RJ0 TJ0 0
theorem nmJ0 : ∀ a, a < 0 → ∀ b, b < 0 → a ≠ b → (TJ0 a).2.1 ≠ (TJ0 b).2.1 := by decide +kernel
theorem tyJ0_ok : ∀ k, k < 0 → parseFieldDescriptor (TJ0 k).2.2.1 = some (tyJ0 k) := by decide +kernel
def RL : String := "BumpheraldLaw"
abbrev cL_pack : ByteArray := method_3_code
def yL_pack : MethodName := ⟨RL, "pack", "(LBumpherald;I[J)I"⟩
abbrev cL_need : ByteArray := method_4_code
def yL_need : MethodName := ⟨RL, "need", "(LBumpherald;IIII[J)I"⟩
abbrev cL_trust : ByteArray := method_5_code
def yL_trust : MethodName := ⟨RL, "trust", "(LBumpherald;II[J)I"⟩
abbrev cL_patience : ByteArray := method_6_code
def yL_patience : MethodName := ⟨RL, "patience", "(LBumpherald;I[J)I"⟩
abbrev cL_freeze : ByteArray := method_7_code
def yL_freeze : MethodName := ⟨RL, "freeze", "(LBumpherald;III[J)I"⟩
abbrev cL_raise : ByteArray := method_8_code
def yL_raise : MethodName := ⟨RL, "raise", "(LBumpherald;III[J)I"⟩
abbrev cL_approve : ByteArray := method_9_code
def yL_approve : MethodName := ⟨RL, "approve", "(LBumpherald;I[J)I"⟩
abbrev cL_land : ByteArray := method_10_code
def yL_land : MethodName := ⟨RL, "land", "(LBumpherald;IZ[J)I"⟩
abbrev cL_close : ByteArray := method_11_code
def yL_close : MethodName := ⟨RL, "close", "(LBumpherald;I)I"⟩
abbrev cL_pass : ByteArray := method_12_code
def yL_pass : MethodName := ⟨RL, "pass", "(LBumpherald;I[J)I"⟩
abbrev cL_version : ByteArray := method_13_code
def yL_version : MethodName := ⟨RL, "version", "(LBumpherald;I[J)I"⟩
abbrev cL_raiseOf : ByteArray := method_14_code
def yL_raiseOf : MethodName := ⟨RL, "raiseOf", "(LBumpherald;II[J)I"⟩
abbrev cL_fails : ByteArray := method_15_code
def yL_fails : MethodName := ⟨RL, "fails", "(LBumpherald;I[J)I"⟩
abbrev cL_canLand : ByteArray := method_16_code
def yL_canLand : MethodName := ⟨RL, "canLand", "(LBumpherald;I[J)I"⟩
abbrev cL_load : ByteArray := method_17_code
def yL_load : MethodName := ⟨RL, "load", "(LBumpherald;I[J)I"⟩
abbrev cL_fewest : ByteArray := method_18_code
def yL_fewest : MethodName := ⟨RL, "fewest", "(LBumpherald;I[J)I"⟩
abbrev cL_fewestAnew : ByteArray := method_19_code
def yL_fewestAnew : MethodName := ⟨RL, "fewestAnew", "(LBumpherald;I[J)I"⟩
abbrev cL_told : ByteArray := method_20_code
def yL_told : MethodName := ⟨RL, "told", "(LBumpherald;II[J)I"⟩
abbrev cL_law : ByteArray := code
def yL_law : MethodName := ⟨RL, "law", "([I)Z"⟩
def wsX3_startPlan : List Cond := .code yX3_startPlan cX3_startPlan 2 none :: ([.fieldLink RX3 30 "Bumpherald$Packages" "count" "I", .fieldLink RX3 15 "Bumpherald$Packages" "planned" "[I", .fieldLink RX3 9 "Bumpherald$Packages" "versions" "[I"] ++ wsX30)
def wsX4_isIn : List Cond := .code yX4_isIn cX4_isIn 3 (some .boolean) :: ([])
def wsX4_plan : List Cond := .code yX4_plan cX4_plan 3 none :: ([.fieldLink RX4 47 "Bumpherald$Raises" "packages" "LBumpherald$Packages;", .fieldLink RX4 44 "Bumpherald$Raises" "openCount" "I", .fieldLink RX4 79 "Bumpherald$Packages" "planned" "[I", .fieldLink RX4 9 "Bumpherald$Raises" "packs" "[I", .fieldLink RX4 37 "Bumpherald$Raises" "open" "[I", .fieldLink RX4 15 "Bumpherald$Raises" "versions" "[I", .methodLink RX4 76 yX3_startPlan, .instanceMethod yX3_startPlan, .selects RX3 yX3_startPlan yX3_startPlan, .initialized RX3, .code yX3_startPlan cX3_startPlan 2 none, .fieldLink RX3 30 "Bumpherald$Packages" "count" "I", .fieldLink RX3 15 "Bumpherald$Packages" "planned" "[I", .fieldLink RX3 9 "Bumpherald$Packages" "versions" "[I", .methodLink RX4 54 yX4_isIn, .instanceMethod yX4_isIn, .selects RX4 yX4_isIn yX4_isIn, .initialized RX4, .code yX4_isIn cX4_isIn 3 (some .boolean)] ++ wsX40 ++ wsX30)
def wsX6_isWithin : List Cond := .code yX6_isWithin cX6_isWithin 3 (some .boolean) :: ([])
def wsX3_holdsInPlan : List Cond := .code yX3_holdsInPlan cX3_holdsInPlan 3 (some .boolean) :: ([.fieldLink RX3 15 "Bumpherald$Packages" "planned" "[I", .fieldLink RX3 21 "Bumpherald$Packages" "needOthers" "[I", .fieldLink RX3 18 "Bumpherald$Packages" "needOnes" "[I", .fieldLink RX3 24 "Bumpherald$Packages" "needLeasts" "[I", .fieldLink RX3 27 "Bumpherald$Packages" "needMosts" "[I", .static yX6_isWithin, .initialized RX6, .code yX6_isWithin cX6_isWithin 3 (some .boolean)] ++ wsX30)
def wsX3_firstFailingInPlan : List Cond := .code yX3_firstFailingInPlan cX3_firstFailingInPlan 2 (some .int) :: ([.fieldLink RX3 34 "Bumpherald$Packages" "needCount" "I", .methodLink RX3 37 yX3_holdsInPlan, .instanceMethod yX3_holdsInPlan, .selects RX3 yX3_holdsInPlan yX3_holdsInPlan, .initialized RX3, .code yX3_holdsInPlan cX3_holdsInPlan 3 (some .boolean), .fieldLink RX3 15 "Bumpherald$Packages" "planned" "[I", .fieldLink RX3 21 "Bumpherald$Packages" "needOthers" "[I", .fieldLink RX3 18 "Bumpherald$Packages" "needOnes" "[I", .fieldLink RX3 24 "Bumpherald$Packages" "needLeasts" "[I", .fieldLink RX3 27 "Bumpherald$Packages" "needMosts" "[I", .static yX6_isWithin, .initialized RX6, .code yX6_isWithin cX6_isWithin 3 (some .boolean)] ++ wsX30)
def wsX4_firstFailing_r1 : List Cond := [Cond.fieldLink RX4 47 "Bumpherald$Raises" "packages" "LBumpherald$Packages;", Cond.methodLink RX4 65 yX4_plan, Cond.instanceMethod yX4_plan, Cond.selects RX4 yX4_plan yX4_plan, Cond.initialized RX4, Cond.code yX4_plan cX4_plan 3 none, Cond.fieldLink RX4 44 "Bumpherald$Raises" "openCount" "I", Cond.fieldLink RX4 79 "Bumpherald$Packages" "planned" "[I", Cond.fieldLink RX4 9 "Bumpherald$Raises" "packs" "[I", Cond.fieldLink RX4 37 "Bumpherald$Raises" "open" "[I", Cond.fieldLink RX4 15 "Bumpherald$Raises" "versions" "[I", Cond.methodLink RX4 76 yX3_startPlan, Cond.instanceMethod yX3_startPlan, Cond.selects RX3 yX3_startPlan yX3_startPlan, Cond.initialized RX3, Cond.code yX3_startPlan cX3_startPlan 2 none, Cond.fieldLink RX3 30 "Bumpherald$Packages" "count" "I", Cond.fieldLink RX3 15 "Bumpherald$Packages" "planned" "[I", Cond.fieldLink RX3 9 "Bumpherald$Packages" "versions" "[I", Cond.methodLink RX4 54 yX4_isIn, Cond.instanceMethod yX4_isIn, Cond.selects RX4 yX4_isIn yX4_isIn, Cond.code yX4_isIn cX4_isIn 3 (some .boolean), Cond.methodLink RX4 73 yX3_firstFailingInPlan]
def wsX4_firstFailing_r2 : List Cond := [Cond.instanceMethod yX3_firstFailingInPlan, Cond.selects RX3 yX3_firstFailingInPlan yX3_firstFailingInPlan, Cond.code yX3_firstFailingInPlan cX3_firstFailingInPlan 2 (some .int), Cond.fieldLink RX3 34 "Bumpherald$Packages" "needCount" "I", Cond.methodLink RX3 37 yX3_holdsInPlan, Cond.instanceMethod yX3_holdsInPlan, Cond.selects RX3 yX3_holdsInPlan yX3_holdsInPlan, Cond.code yX3_holdsInPlan cX3_holdsInPlan 3 (some .boolean), Cond.fieldLink RX3 21 "Bumpherald$Packages" "needOthers" "[I", Cond.fieldLink RX3 18 "Bumpherald$Packages" "needOnes" "[I", Cond.fieldLink RX3 24 "Bumpherald$Packages" "needLeasts" "[I", Cond.fieldLink RX3 27 "Bumpherald$Packages" "needMosts" "[I", Cond.static yX6_isWithin, Cond.initialized RX6, Cond.code yX6_isWithin cX6_isWithin 3 (some .boolean)]
def wsX4_firstFailing : List Cond := .code yX4_firstFailing cX4_firstFailing 2 (some .int) :: ((wsX4_firstFailing_r1 ++ wsX4_firstFailing_r2) ++ wsX40 ++ wsX30)
def wsX4_bitOfPackage : List Cond := .code yX4_bitOfPackage cX4_bitOfPackage 3 (some .int) :: ([.fieldLink RX4 44 "Bumpherald$Raises" "openCount" "I", .fieldLink RX4 9 "Bumpherald$Raises" "packs" "[I", .fieldLink RX4 37 "Bumpherald$Raises" "open" "[I"] ++ wsX40)
def wsX0_byNeeds_r1 : List Cond := [Cond.fieldLink RX0 15 "Bumpherald$Raises" "packages" "LBumpherald$Packages;", Cond.fieldLink RX0 19 "Bumpherald$Packages" "needOnes" "[I", Cond.fieldLink RX0 28 "Bumpherald$Packages" "needOthers" "[I", Cond.methodLink RX0 9 yX4_firstFailing, Cond.instanceMethod yX4_firstFailing, Cond.selects RX4 yX4_firstFailing yX4_firstFailing, Cond.initialized RX4, Cond.code yX4_firstFailing cX4_firstFailing 2 (some .int), Cond.fieldLink RX4 47 "Bumpherald$Raises" "packages" "LBumpherald$Packages;", Cond.methodLink RX4 65 yX4_plan, Cond.instanceMethod yX4_plan, Cond.selects RX4 yX4_plan yX4_plan, Cond.code yX4_plan cX4_plan 3 none, Cond.fieldLink RX4 44 "Bumpherald$Raises" "openCount" "I", Cond.fieldLink RX4 79 "Bumpherald$Packages" "planned" "[I", Cond.fieldLink RX4 9 "Bumpherald$Raises" "packs" "[I", Cond.fieldLink RX4 37 "Bumpherald$Raises" "open" "[I", Cond.fieldLink RX4 15 "Bumpherald$Raises" "versions" "[I", Cond.methodLink RX4 76 yX3_startPlan, Cond.instanceMethod yX3_startPlan, Cond.selects RX3 yX3_startPlan yX3_startPlan, Cond.initialized RX3, Cond.code yX3_startPlan cX3_startPlan 2 none, Cond.fieldLink RX3 30 "Bumpherald$Packages" "count" "I"]
def wsX0_byNeeds_r2 : List Cond := [Cond.fieldLink RX3 15 "Bumpherald$Packages" "planned" "[I", Cond.fieldLink RX3 9 "Bumpherald$Packages" "versions" "[I", Cond.methodLink RX4 54 yX4_isIn, Cond.instanceMethod yX4_isIn, Cond.selects RX4 yX4_isIn yX4_isIn, Cond.code yX4_isIn cX4_isIn 3 (some .boolean), Cond.methodLink RX4 73 yX3_firstFailingInPlan, Cond.instanceMethod yX3_firstFailingInPlan, Cond.selects RX3 yX3_firstFailingInPlan yX3_firstFailingInPlan, Cond.code yX3_firstFailingInPlan cX3_firstFailingInPlan 2 (some .int), Cond.fieldLink RX3 34 "Bumpherald$Packages" "needCount" "I", Cond.methodLink RX3 37 yX3_holdsInPlan, Cond.instanceMethod yX3_holdsInPlan, Cond.selects RX3 yX3_holdsInPlan yX3_holdsInPlan, Cond.code yX3_holdsInPlan cX3_holdsInPlan 3 (some .boolean), Cond.fieldLink RX3 21 "Bumpherald$Packages" "needOthers" "[I", Cond.fieldLink RX3 18 "Bumpherald$Packages" "needOnes" "[I", Cond.fieldLink RX3 24 "Bumpherald$Packages" "needLeasts" "[I", Cond.fieldLink RX3 27 "Bumpherald$Packages" "needMosts" "[I", Cond.static yX6_isWithin, Cond.initialized RX6, Cond.code yX6_isWithin cX6_isWithin 3 (some .boolean), Cond.methodLink RX0 25 yX4_bitOfPackage, Cond.instanceMethod yX4_bitOfPackage]
def wsX0_byNeeds_r3 : List Cond := [Cond.selects RX4 yX4_bitOfPackage yX4_bitOfPackage, Cond.code yX4_bitOfPackage cX4_bitOfPackage 3 (some .int)]
def wsX0_byNeeds : List Cond := .code yX0_byNeeds cX0_byNeeds 6 (some .int) :: ((wsX0_byNeeds_r1 ++ (wsX0_byNeeds_r2 ++ wsX0_byNeeds_r3)) ++ wsX40 ++ wsX30)
def wsJ6_bitCount_0f7a4 : List Cond := .code yJ6_bitCount_0f7a4 cJ6_bitCount_0f7a4 1 (some .int) :: ([.constant RJ6 265 (1431655765), .constant RJ6 266 (858993459), .constant RJ6 267 (252645135)])
def wsX3_failingInPlan : List Cond := .code yX3_failingInPlan cX3_failingInPlan 3 (some .int) :: ([.fieldLink RX3 34 "Bumpherald$Packages" "needCount" "I", .methodLink RX3 37 yX3_holdsInPlan, .instanceMethod yX3_holdsInPlan, .selects RX3 yX3_holdsInPlan yX3_holdsInPlan, .initialized RX3, .code yX3_holdsInPlan cX3_holdsInPlan 3 (some .boolean), .fieldLink RX3 15 "Bumpherald$Packages" "planned" "[I", .fieldLink RX3 21 "Bumpherald$Packages" "needOthers" "[I", .fieldLink RX3 18 "Bumpherald$Packages" "needOnes" "[I", .fieldLink RX3 24 "Bumpherald$Packages" "needLeasts" "[I", .fieldLink RX3 27 "Bumpherald$Packages" "needMosts" "[I", .static yX6_isWithin, .initialized RX6, .code yX6_isWithin cX6_isWithin 3 (some .boolean)] ++ wsX30)
def wsX4_failing_r1 : List Cond := [Cond.fieldLink RX4 47 "Bumpherald$Raises" "packages" "LBumpherald$Packages;", Cond.methodLink RX4 65 yX4_plan, Cond.instanceMethod yX4_plan, Cond.selects RX4 yX4_plan yX4_plan, Cond.initialized RX4, Cond.code yX4_plan cX4_plan 3 none, Cond.fieldLink RX4 44 "Bumpherald$Raises" "openCount" "I", Cond.fieldLink RX4 79 "Bumpherald$Packages" "planned" "[I", Cond.fieldLink RX4 9 "Bumpherald$Raises" "packs" "[I", Cond.fieldLink RX4 37 "Bumpherald$Raises" "open" "[I", Cond.fieldLink RX4 15 "Bumpherald$Raises" "versions" "[I", Cond.methodLink RX4 76 yX3_startPlan, Cond.instanceMethod yX3_startPlan, Cond.selects RX3 yX3_startPlan yX3_startPlan, Cond.initialized RX3, Cond.code yX3_startPlan cX3_startPlan 2 none, Cond.fieldLink RX3 30 "Bumpherald$Packages" "count" "I", Cond.fieldLink RX3 15 "Bumpherald$Packages" "planned" "[I", Cond.fieldLink RX3 9 "Bumpherald$Packages" "versions" "[I", Cond.methodLink RX4 54 yX4_isIn, Cond.instanceMethod yX4_isIn, Cond.selects RX4 yX4_isIn yX4_isIn, Cond.code yX4_isIn cX4_isIn 3 (some .boolean), Cond.methodLink RX4 69 yX3_failingInPlan]
def wsX4_failing_r2 : List Cond := [Cond.instanceMethod yX3_failingInPlan, Cond.selects RX3 yX3_failingInPlan yX3_failingInPlan, Cond.code yX3_failingInPlan cX3_failingInPlan 3 (some .int), Cond.fieldLink RX3 34 "Bumpherald$Packages" "needCount" "I", Cond.methodLink RX3 37 yX3_holdsInPlan, Cond.instanceMethod yX3_holdsInPlan, Cond.selects RX3 yX3_holdsInPlan yX3_holdsInPlan, Cond.code yX3_holdsInPlan cX3_holdsInPlan 3 (some .boolean), Cond.fieldLink RX3 21 "Bumpherald$Packages" "needOthers" "[I", Cond.fieldLink RX3 18 "Bumpherald$Packages" "needOnes" "[I", Cond.fieldLink RX3 24 "Bumpherald$Packages" "needLeasts" "[I", Cond.fieldLink RX3 27 "Bumpherald$Packages" "needMosts" "[I", Cond.static yX6_isWithin, Cond.initialized RX6, Cond.code yX6_isWithin cX6_isWithin 3 (some .boolean)]
def wsX4_failing : List Cond := .code yX4_failing cX4_failing 2 (some .int) :: ((wsX4_failing_r1 ++ wsX4_failing_r2) ++ wsX40 ++ wsX30)
def wsX0_byAllSets_r1 : List Cond := [Cond.fieldLink RX0 31 "Bumpherald$Raises" "openCount" "I", Cond.methodLink RX0 35 yJ6_bitCount_0f7a4, Cond.static yJ6_bitCount_0f7a4, Cond.initialized RJ6, Cond.code yJ6_bitCount_0f7a4 cJ6_bitCount_0f7a4 1 (some .int), Cond.constant RJ6 265 (1431655765), Cond.constant RJ6 266 (858993459), Cond.constant RJ6 267 (252645135), Cond.methodLink RX0 40 yX4_failing, Cond.instanceMethod yX4_failing, Cond.selects RX4 yX4_failing yX4_failing, Cond.initialized RX4, Cond.code yX4_failing cX4_failing 2 (some .int), Cond.fieldLink RX4 47 "Bumpherald$Raises" "packages" "LBumpherald$Packages;", Cond.methodLink RX4 65 yX4_plan, Cond.instanceMethod yX4_plan, Cond.selects RX4 yX4_plan yX4_plan, Cond.code yX4_plan cX4_plan 3 none, Cond.fieldLink RX4 44 "Bumpherald$Raises" "openCount" "I", Cond.fieldLink RX4 79 "Bumpherald$Packages" "planned" "[I", Cond.fieldLink RX4 9 "Bumpherald$Raises" "packs" "[I", Cond.fieldLink RX4 37 "Bumpherald$Raises" "open" "[I", Cond.fieldLink RX4 15 "Bumpherald$Raises" "versions" "[I", Cond.methodLink RX4 76 yX3_startPlan]
def wsX0_byAllSets_r2 : List Cond := [Cond.instanceMethod yX3_startPlan, Cond.selects RX3 yX3_startPlan yX3_startPlan, Cond.initialized RX3, Cond.code yX3_startPlan cX3_startPlan 2 none, Cond.fieldLink RX3 30 "Bumpherald$Packages" "count" "I", Cond.fieldLink RX3 15 "Bumpherald$Packages" "planned" "[I", Cond.fieldLink RX3 9 "Bumpherald$Packages" "versions" "[I", Cond.methodLink RX4 54 yX4_isIn, Cond.instanceMethod yX4_isIn, Cond.selects RX4 yX4_isIn yX4_isIn, Cond.code yX4_isIn cX4_isIn 3 (some .boolean), Cond.methodLink RX4 69 yX3_failingInPlan, Cond.instanceMethod yX3_failingInPlan, Cond.selects RX3 yX3_failingInPlan yX3_failingInPlan, Cond.code yX3_failingInPlan cX3_failingInPlan 3 (some .int), Cond.fieldLink RX3 34 "Bumpherald$Packages" "needCount" "I", Cond.methodLink RX3 37 yX3_holdsInPlan, Cond.instanceMethod yX3_holdsInPlan, Cond.selects RX3 yX3_holdsInPlan yX3_holdsInPlan, Cond.code yX3_holdsInPlan cX3_holdsInPlan 3 (some .boolean), Cond.fieldLink RX3 21 "Bumpherald$Packages" "needOthers" "[I", Cond.fieldLink RX3 18 "Bumpherald$Packages" "needOnes" "[I", Cond.fieldLink RX3 24 "Bumpherald$Packages" "needLeasts" "[I", Cond.fieldLink RX3 27 "Bumpherald$Packages" "needMosts" "[I"]
def wsX0_byAllSets_r3 : List Cond := [Cond.static yX6_isWithin, Cond.initialized RX6, Cond.code yX6_isWithin cX6_isWithin 3 (some .boolean)]
def wsX0_byAllSets : List Cond := .code yX0_byAllSets cX0_byAllSets 5 (some .int) :: ((wsX0_byAllSets_r1 ++ (wsX0_byAllSets_r2 ++ wsX0_byAllSets_r3)) ++ wsX40 ++ wsX30)
def wsX1_init : List Cond := .code yX1_init cX1_init 1 none :: ([.methodLink RX1 3 objectInit, .instanceMethod objectInit, .code objectInit ⟨#[0xb1]⟩ 1 none, .arrayClass .int, .fieldLink RX1 9 "Bumpherald$Freezes" "sets" "[I", .fieldLink RX1 15 "Bumpherald$Freezes" "firstDays" "[I", .fieldLink RX1 18 "Bumpherald$Freezes" "lastDays" "[I", .fieldLink RX1 21 "Bumpherald$Freezes" "count" "I"] ++ wsX10)
def wsX1_add : List Cond := .code yX1_add cX1_add 4 (some .int) :: ([.fieldLink RX1 9 "Bumpherald$Freezes" "sets" "[I", .fieldLink RX1 21 "Bumpherald$Freezes" "count" "I", .fieldLink RX1 15 "Bumpherald$Freezes" "firstDays" "[I", .fieldLink RX1 18 "Bumpherald$Freezes" "lastDays" "[I"] ++ wsX10)
def wsX1_isFrozen : List Cond := .code yX1_isFrozen cX1_isFrozen 4 (some .boolean) :: ([.fieldLink RX1 21 "Bumpherald$Freezes" "count" "I", .fieldLink RX1 9 "Bumpherald$Freezes" "sets" "[I", .fieldLink RX1 15 "Bumpherald$Freezes" "firstDays" "[I", .fieldLink RX1 18 "Bumpherald$Freezes" "lastDays" "[I", .static yX6_isWithin, .initialized RX6, .code yX6_isWithin cX6_isWithin 3 (some .boolean)] ++ wsX10)
def wsX2_init : List Cond := .code yX2_init cX2_init 3 none :: ([.methodLink RX2 3 objectInit, .instanceMethod objectInit, .code objectInit ⟨#[0xb1]⟩ 1 none, .arrayClass .boolean, .fieldLink RX2 9 "Bumpherald$Herding" "waiting" "[Z", .fieldLink RX2 15 "Bumpherald$Herding" "patience" "I", .fieldLink RX2 19 "Bumpherald$Herding" "raises" "LBumpherald$Raises;", .fieldLink RX2 23 "Bumpherald$Herding" "reviewers" "LBumpherald$Reviewers;"] ++ wsX20)
def wsX4_groupOf : List Cond := .code yX4_groupOf cX4_groupOf 4 (some .int) :: ([.fieldLink RX4 44 "Bumpherald$Raises" "openCount" "I", .fieldLink RX4 34 "Bumpherald$Raises" "groups" "[I", .fieldLink RX4 37 "Bumpherald$Raises" "open" "[I"] ++ wsX40)
def wsX2_sleepsTooLong_r1 : List Cond := [Cond.fieldLink RX2 19 "Bumpherald$Herding" "raises" "LBumpherald$Raises;", Cond.fieldLink RX2 48 "Bumpherald$Raises" "days" "[I", Cond.fieldLink RX2 15 "Bumpherald$Herding" "patience" "I", Cond.methodLink RX2 51 yX4_groupOf, Cond.instanceMethod yX4_groupOf, Cond.selects RX4 yX4_groupOf yX4_groupOf, Cond.initialized RX4, Cond.code yX4_groupOf cX4_groupOf 4 (some .int), Cond.fieldLink RX4 44 "Bumpherald$Raises" "openCount" "I", Cond.fieldLink RX4 34 "Bumpherald$Raises" "groups" "[I", Cond.fieldLink RX4 37 "Bumpherald$Raises" "open" "[I", Cond.methodLink RX2 54 yX4_failing, Cond.instanceMethod yX4_failing, Cond.selects RX4 yX4_failing yX4_failing, Cond.code yX4_failing cX4_failing 2 (some .int), Cond.fieldLink RX4 47 "Bumpherald$Raises" "packages" "LBumpherald$Packages;", Cond.methodLink RX4 65 yX4_plan, Cond.instanceMethod yX4_plan, Cond.selects RX4 yX4_plan yX4_plan, Cond.code yX4_plan cX4_plan 3 none, Cond.fieldLink RX4 79 "Bumpherald$Packages" "planned" "[I", Cond.fieldLink RX4 9 "Bumpherald$Raises" "packs" "[I", Cond.fieldLink RX4 15 "Bumpherald$Raises" "versions" "[I", Cond.methodLink RX4 76 yX3_startPlan]
def wsX2_sleepsTooLong_r2 : List Cond := [Cond.instanceMethod yX3_startPlan, Cond.selects RX3 yX3_startPlan yX3_startPlan, Cond.initialized RX3, Cond.code yX3_startPlan cX3_startPlan 2 none, Cond.fieldLink RX3 30 "Bumpherald$Packages" "count" "I", Cond.fieldLink RX3 15 "Bumpherald$Packages" "planned" "[I", Cond.fieldLink RX3 9 "Bumpherald$Packages" "versions" "[I", Cond.methodLink RX4 54 yX4_isIn, Cond.instanceMethod yX4_isIn, Cond.selects RX4 yX4_isIn yX4_isIn, Cond.code yX4_isIn cX4_isIn 3 (some .boolean), Cond.methodLink RX4 69 yX3_failingInPlan, Cond.instanceMethod yX3_failingInPlan, Cond.selects RX3 yX3_failingInPlan yX3_failingInPlan, Cond.code yX3_failingInPlan cX3_failingInPlan 3 (some .int), Cond.fieldLink RX3 34 "Bumpherald$Packages" "needCount" "I", Cond.methodLink RX3 37 yX3_holdsInPlan, Cond.instanceMethod yX3_holdsInPlan, Cond.selects RX3 yX3_holdsInPlan yX3_holdsInPlan, Cond.code yX3_holdsInPlan cX3_holdsInPlan 3 (some .boolean), Cond.fieldLink RX3 21 "Bumpherald$Packages" "needOthers" "[I", Cond.fieldLink RX3 18 "Bumpherald$Packages" "needOnes" "[I", Cond.fieldLink RX3 24 "Bumpherald$Packages" "needLeasts" "[I", Cond.fieldLink RX3 27 "Bumpherald$Packages" "needMosts" "[I"]
def wsX2_sleepsTooLong_r3 : List Cond := [Cond.static yX6_isWithin, Cond.initialized RX6, Cond.code yX6_isWithin cX6_isWithin 3 (some .boolean)]
def wsX2_sleepsTooLong : List Cond := .code yX2_sleepsTooLong cX2_sleepsTooLong 3 (some .boolean) :: ((wsX2_sleepsTooLong_r1 ++ (wsX2_sleepsTooLong_r2 ++ wsX2_sleepsTooLong_r3)) ++ wsX20 ++ wsX40 ++ wsX30)
def wsX2_bestPartner_r1 : List Cond := [Cond.fieldLink RX2 19 "Bumpherald$Herding" "raises" "LBumpherald$Raises;", Cond.fieldLink RX2 27 "Bumpherald$Raises" "count" "I", Cond.fieldLink RX2 32 "Bumpherald$Raises" "groups" "[I", Cond.methodLink RX2 51 yX4_groupOf, Cond.instanceMethod yX4_groupOf, Cond.selects RX4 yX4_groupOf yX4_groupOf, Cond.initialized RX4, Cond.code yX4_groupOf cX4_groupOf 4 (some .int), Cond.fieldLink RX4 44 "Bumpherald$Raises" "openCount" "I", Cond.fieldLink RX4 34 "Bumpherald$Raises" "groups" "[I", Cond.fieldLink RX4 37 "Bumpherald$Raises" "open" "[I", Cond.methodLink RX2 54 yX4_failing, Cond.instanceMethod yX4_failing, Cond.selects RX4 yX4_failing yX4_failing, Cond.code yX4_failing cX4_failing 2 (some .int), Cond.fieldLink RX4 47 "Bumpherald$Raises" "packages" "LBumpherald$Packages;", Cond.methodLink RX4 65 yX4_plan, Cond.instanceMethod yX4_plan, Cond.selects RX4 yX4_plan yX4_plan, Cond.code yX4_plan cX4_plan 3 none, Cond.fieldLink RX4 79 "Bumpherald$Packages" "planned" "[I", Cond.fieldLink RX4 9 "Bumpherald$Raises" "packs" "[I", Cond.fieldLink RX4 15 "Bumpherald$Raises" "versions" "[I", Cond.methodLink RX4 76 yX3_startPlan]
def wsX2_bestPartner_r2 : List Cond := [Cond.instanceMethod yX3_startPlan, Cond.selects RX3 yX3_startPlan yX3_startPlan, Cond.initialized RX3, Cond.code yX3_startPlan cX3_startPlan 2 none, Cond.fieldLink RX3 30 "Bumpherald$Packages" "count" "I", Cond.fieldLink RX3 15 "Bumpherald$Packages" "planned" "[I", Cond.fieldLink RX3 9 "Bumpherald$Packages" "versions" "[I", Cond.methodLink RX4 54 yX4_isIn, Cond.instanceMethod yX4_isIn, Cond.selects RX4 yX4_isIn yX4_isIn, Cond.code yX4_isIn cX4_isIn 3 (some .boolean), Cond.methodLink RX4 69 yX3_failingInPlan, Cond.instanceMethod yX3_failingInPlan, Cond.selects RX3 yX3_failingInPlan yX3_failingInPlan, Cond.code yX3_failingInPlan cX3_failingInPlan 3 (some .int), Cond.fieldLink RX3 34 "Bumpherald$Packages" "needCount" "I", Cond.methodLink RX3 37 yX3_holdsInPlan, Cond.instanceMethod yX3_holdsInPlan, Cond.selects RX3 yX3_holdsInPlan yX3_holdsInPlan, Cond.code yX3_holdsInPlan cX3_holdsInPlan 3 (some .boolean), Cond.fieldLink RX3 21 "Bumpherald$Packages" "needOthers" "[I", Cond.fieldLink RX3 18 "Bumpherald$Packages" "needOnes" "[I", Cond.fieldLink RX3 24 "Bumpherald$Packages" "needLeasts" "[I", Cond.fieldLink RX3 27 "Bumpherald$Packages" "needMosts" "[I"]
def wsX2_bestPartner_r3 : List Cond := [Cond.static yX6_isWithin, Cond.initialized RX6, Cond.code yX6_isWithin cX6_isWithin 3 (some .boolean)]
def wsX2_bestPartner : List Cond := .code yX2_bestPartner cX2_bestPartner 7 (some .int) :: ((wsX2_bestPartner_r1 ++ (wsX2_bestPartner_r2 ++ wsX2_bestPartner_r3)) ++ wsX20 ++ wsX40 ++ wsX30)
def wsX4_group : List Cond := .code yX4_group cX4_group 4 none :: ([.fieldLink RX4 44 "Bumpherald$Raises" "openCount" "I", .fieldLink RX4 37 "Bumpherald$Raises" "open" "[I", .fieldLink RX4 34 "Bumpherald$Raises" "groups" "[I", .methodLink RX4 54 yX4_isIn, .instanceMethod yX4_isIn, .selects RX4 yX4_isIn yX4_isIn, .initialized RX4, .code yX4_isIn cX4_isIn 3 (some .boolean)] ++ wsX40)
def wsX5_reviewsAnother : List Cond := .code yX5_reviewsAnother cX5_reviewsAnother 6 (some .boolean) :: ([.fieldLink RX5 15 "Bumpherald$Reviewers" "raises" "LBumpherald$Raises;", .fieldLink RX5 19 "Bumpherald$Raises" "openCount" "I", .fieldLink RX5 25 "Bumpherald$Raises" "open" "[I", .fieldLink RX5 51 "Bumpherald$Raises" "groups" "[I", .fieldLink RX5 28 "Bumpherald$Raises" "reviewers" "[I"] ++ wsX50 ++ wsX40)
def wsX5_hasOwnReviewer : List Cond := .code yX5_hasOwnReviewer cX5_hasOwnReviewer 3 (some .boolean) :: ([.fieldLink RX5 15 "Bumpherald$Reviewers" "raises" "LBumpherald$Raises;", .fieldLink RX5 28 "Bumpherald$Raises" "reviewers" "[I", .methodLink RX5 47 yX5_reviewsAnother, .instanceMethod yX5_reviewsAnother, .selects RX5 yX5_reviewsAnother yX5_reviewsAnother, .initialized RX5, .code yX5_reviewsAnother cX5_reviewsAnother 6 (some .boolean), .fieldLink RX5 19 "Bumpherald$Raises" "openCount" "I", .fieldLink RX5 25 "Bumpherald$Raises" "open" "[I", .fieldLink RX5 51 "Bumpherald$Raises" "groups" "[I"] ++ wsX50 ++ wsX40)
def wsX5_loadWithout : List Cond := .code yX5_loadWithout cX5_loadWithout 6 (some .int) :: ([.fieldLink RX5 15 "Bumpherald$Reviewers" "raises" "LBumpherald$Raises;", .fieldLink RX5 19 "Bumpherald$Raises" "openCount" "I", .fieldLink RX5 25 "Bumpherald$Raises" "open" "[I", .fieldLink RX5 28 "Bumpherald$Raises" "reviewers" "[I"] ++ wsX50 ++ wsX40)
def wsX5_bestFor : List Cond := .code yX5_bestFor cX5_bestFor 6 (some .int) :: ([.fieldLink RX5 9 "Bumpherald$Reviewers" "trusts" "[I", .fieldLink RX5 15 "Bumpherald$Reviewers" "raises" "LBumpherald$Raises;", .fieldLink RX5 58 "Bumpherald$Raises" "risks" "[I", .methodLink RX5 54 yX5_loadWithout, .instanceMethod yX5_loadWithout, .selects RX5 yX5_loadWithout yX5_loadWithout, .initialized RX5, .code yX5_loadWithout cX5_loadWithout 6 (some .int), .fieldLink RX5 19 "Bumpherald$Raises" "openCount" "I", .fieldLink RX5 25 "Bumpherald$Raises" "open" "[I", .fieldLink RX5 28 "Bumpherald$Raises" "reviewers" "[I", .methodLink RX5 47 yX5_reviewsAnother, .instanceMethod yX5_reviewsAnother, .selects RX5 yX5_reviewsAnother yX5_reviewsAnother, .code yX5_reviewsAnother cX5_reviewsAnother 6 (some .boolean), .fieldLink RX5 51 "Bumpherald$Raises" "groups" "[I"] ++ wsX50 ++ wsX40)
def wsX5_give : List Cond := .code yX5_give cX5_give 3 none :: ([.fieldLink RX5 15 "Bumpherald$Reviewers" "raises" "LBumpherald$Raises;", .fieldLink RX5 28 "Bumpherald$Raises" "reviewers" "[I", .fieldLink RX5 61 "Bumpherald$Raises" "approved" "[Z"] ++ wsX50 ++ wsX40)
def wsX5_giveAnew_r1 : List Cond := [Cond.fieldLink RX5 15 "Bumpherald$Reviewers" "raises" "LBumpherald$Raises;", Cond.fieldLink RX5 19 "Bumpherald$Raises" "openCount" "I", Cond.fieldLink RX5 25 "Bumpherald$Raises" "open" "[I", Cond.methodLink RX5 31 yX4_isIn, Cond.instanceMethod yX4_isIn, Cond.selects RX4 yX4_isIn yX4_isIn, Cond.initialized RX4, Cond.code yX4_isIn cX4_isIn 3 (some .boolean), Cond.methodLink RX5 35 yX5_hasOwnReviewer, Cond.instanceMethod yX5_hasOwnReviewer, Cond.selects RX5 yX5_hasOwnReviewer yX5_hasOwnReviewer, Cond.initialized RX5, Cond.code yX5_hasOwnReviewer cX5_hasOwnReviewer 3 (some .boolean), Cond.fieldLink RX5 28 "Bumpherald$Raises" "reviewers" "[I", Cond.methodLink RX5 47 yX5_reviewsAnother, Cond.instanceMethod yX5_reviewsAnother, Cond.selects RX5 yX5_reviewsAnother yX5_reviewsAnother, Cond.code yX5_reviewsAnother cX5_reviewsAnother 6 (some .boolean), Cond.fieldLink RX5 51 "Bumpherald$Raises" "groups" "[I", Cond.methodLink RX5 39 yX5_bestFor, Cond.instanceMethod yX5_bestFor, Cond.selects RX5 yX5_bestFor yX5_bestFor, Cond.code yX5_bestFor cX5_bestFor 6 (some .int), Cond.fieldLink RX5 9 "Bumpherald$Reviewers" "trusts" "[I"]
def wsX5_giveAnew_r2 : List Cond := [Cond.fieldLink RX5 58 "Bumpherald$Raises" "risks" "[I", Cond.methodLink RX5 54 yX5_loadWithout, Cond.instanceMethod yX5_loadWithout, Cond.selects RX5 yX5_loadWithout yX5_loadWithout, Cond.code yX5_loadWithout cX5_loadWithout 6 (some .int), Cond.methodLink RX5 43 yX5_give, Cond.instanceMethod yX5_give, Cond.selects RX5 yX5_give yX5_give, Cond.code yX5_give cX5_give 3 none, Cond.fieldLink RX5 61 "Bumpherald$Raises" "approved" "[Z"]
def wsX5_giveAnew : List Cond := .code yX5_giveAnew cX5_giveAnew 4 none :: ((wsX5_giveAnew_r1 ++ wsX5_giveAnew_r2) ++ wsX50 ++ wsX40)
def wsX2_join_r1 : List Cond := [Cond.fieldLink RX2 9 "Bumpherald$Herding" "waiting" "[Z", Cond.fieldLink RX2 19 "Bumpherald$Herding" "raises" "LBumpherald$Raises;", Cond.fieldLink RX2 23 "Bumpherald$Herding" "reviewers" "LBumpherald$Reviewers;", Cond.methodLink RX2 51 yX4_groupOf, Cond.instanceMethod yX4_groupOf, Cond.selects RX4 yX4_groupOf yX4_groupOf, Cond.initialized RX4, Cond.code yX4_groupOf cX4_groupOf 4 (some .int), Cond.fieldLink RX4 44 "Bumpherald$Raises" "openCount" "I", Cond.fieldLink RX4 34 "Bumpherald$Raises" "groups" "[I", Cond.fieldLink RX4 37 "Bumpherald$Raises" "open" "[I", Cond.methodLink RX2 57 yX4_group, Cond.instanceMethod yX4_group, Cond.selects RX4 yX4_group yX4_group, Cond.code yX4_group cX4_group 4 none, Cond.methodLink RX4 54 yX4_isIn, Cond.instanceMethod yX4_isIn, Cond.selects RX4 yX4_isIn yX4_isIn, Cond.code yX4_isIn cX4_isIn 3 (some .boolean), Cond.methodLink RX2 61 yX5_giveAnew, Cond.instanceMethod yX5_giveAnew, Cond.selects RX5 yX5_giveAnew yX5_giveAnew, Cond.initialized RX5, Cond.code yX5_giveAnew cX5_giveAnew 4 none]
def wsX2_join_r2 : List Cond := [Cond.fieldLink RX5 15 "Bumpherald$Reviewers" "raises" "LBumpherald$Raises;", Cond.fieldLink RX5 19 "Bumpherald$Raises" "openCount" "I", Cond.fieldLink RX5 25 "Bumpherald$Raises" "open" "[I", Cond.methodLink RX5 31 yX4_isIn, Cond.methodLink RX5 35 yX5_hasOwnReviewer, Cond.instanceMethod yX5_hasOwnReviewer, Cond.selects RX5 yX5_hasOwnReviewer yX5_hasOwnReviewer, Cond.code yX5_hasOwnReviewer cX5_hasOwnReviewer 3 (some .boolean), Cond.fieldLink RX5 28 "Bumpherald$Raises" "reviewers" "[I", Cond.methodLink RX5 47 yX5_reviewsAnother, Cond.instanceMethod yX5_reviewsAnother, Cond.selects RX5 yX5_reviewsAnother yX5_reviewsAnother, Cond.code yX5_reviewsAnother cX5_reviewsAnother 6 (some .boolean), Cond.fieldLink RX5 51 "Bumpherald$Raises" "groups" "[I", Cond.methodLink RX5 39 yX5_bestFor, Cond.instanceMethod yX5_bestFor, Cond.selects RX5 yX5_bestFor yX5_bestFor, Cond.code yX5_bestFor cX5_bestFor 6 (some .int), Cond.fieldLink RX5 9 "Bumpherald$Reviewers" "trusts" "[I", Cond.fieldLink RX5 58 "Bumpherald$Raises" "risks" "[I", Cond.methodLink RX5 54 yX5_loadWithout, Cond.instanceMethod yX5_loadWithout, Cond.selects RX5 yX5_loadWithout yX5_loadWithout, Cond.code yX5_loadWithout cX5_loadWithout 6 (some .int)]
def wsX2_join_r3 : List Cond := [Cond.methodLink RX5 43 yX5_give, Cond.instanceMethod yX5_give, Cond.selects RX5 yX5_give yX5_give, Cond.code yX5_give cX5_give 3 none, Cond.fieldLink RX5 61 "Bumpherald$Raises" "approved" "[Z"]
def wsX2_join : List Cond := .code yX2_join cX2_join 4 none :: ((wsX2_join_r1 ++ (wsX2_join_r2 ++ wsX2_join_r3)) ++ wsX20 ++ wsX40 ++ wsX50)
def wsX2_joinSleepers_r1 : List Cond := [Cond.fieldLink RX2 19 "Bumpherald$Herding" "raises" "LBumpherald$Raises;", Cond.fieldLink RX2 27 "Bumpherald$Raises" "count" "I", Cond.fieldLink RX2 9 "Bumpherald$Herding" "waiting" "[Z", Cond.fieldLink RX2 32 "Bumpherald$Raises" "groups" "[I", Cond.methodLink RX2 36 yX2_sleepsTooLong, Cond.instanceMethod yX2_sleepsTooLong, Cond.selects RX2 yX2_sleepsTooLong yX2_sleepsTooLong, Cond.initialized RX2, Cond.code yX2_sleepsTooLong cX2_sleepsTooLong 3 (some .boolean), Cond.fieldLink RX2 48 "Bumpherald$Raises" "days" "[I", Cond.fieldLink RX2 15 "Bumpherald$Herding" "patience" "I", Cond.methodLink RX2 51 yX4_groupOf, Cond.instanceMethod yX4_groupOf, Cond.selects RX4 yX4_groupOf yX4_groupOf, Cond.initialized RX4, Cond.code yX4_groupOf cX4_groupOf 4 (some .int), Cond.fieldLink RX4 44 "Bumpherald$Raises" "openCount" "I", Cond.fieldLink RX4 34 "Bumpherald$Raises" "groups" "[I", Cond.fieldLink RX4 37 "Bumpherald$Raises" "open" "[I", Cond.methodLink RX2 54 yX4_failing, Cond.instanceMethod yX4_failing, Cond.selects RX4 yX4_failing yX4_failing, Cond.code yX4_failing cX4_failing 2 (some .int), Cond.fieldLink RX4 47 "Bumpherald$Raises" "packages" "LBumpherald$Packages;"]
def wsX2_joinSleepers_r2 : List Cond := [Cond.methodLink RX4 65 yX4_plan, Cond.instanceMethod yX4_plan, Cond.selects RX4 yX4_plan yX4_plan, Cond.code yX4_plan cX4_plan 3 none, Cond.fieldLink RX4 79 "Bumpherald$Packages" "planned" "[I", Cond.fieldLink RX4 9 "Bumpherald$Raises" "packs" "[I", Cond.fieldLink RX4 15 "Bumpherald$Raises" "versions" "[I", Cond.methodLink RX4 76 yX3_startPlan, Cond.instanceMethod yX3_startPlan, Cond.selects RX3 yX3_startPlan yX3_startPlan, Cond.initialized RX3, Cond.code yX3_startPlan cX3_startPlan 2 none, Cond.fieldLink RX3 30 "Bumpherald$Packages" "count" "I", Cond.fieldLink RX3 15 "Bumpherald$Packages" "planned" "[I", Cond.fieldLink RX3 9 "Bumpherald$Packages" "versions" "[I", Cond.methodLink RX4 54 yX4_isIn, Cond.instanceMethod yX4_isIn, Cond.selects RX4 yX4_isIn yX4_isIn, Cond.code yX4_isIn cX4_isIn 3 (some .boolean), Cond.methodLink RX4 69 yX3_failingInPlan, Cond.instanceMethod yX3_failingInPlan, Cond.selects RX3 yX3_failingInPlan yX3_failingInPlan, Cond.code yX3_failingInPlan cX3_failingInPlan 3 (some .int), Cond.fieldLink RX3 34 "Bumpherald$Packages" "needCount" "I"]
def wsX2_joinSleepers_r3 : List Cond := [Cond.methodLink RX3 37 yX3_holdsInPlan, Cond.instanceMethod yX3_holdsInPlan, Cond.selects RX3 yX3_holdsInPlan yX3_holdsInPlan, Cond.code yX3_holdsInPlan cX3_holdsInPlan 3 (some .boolean), Cond.fieldLink RX3 21 "Bumpherald$Packages" "needOthers" "[I", Cond.fieldLink RX3 18 "Bumpherald$Packages" "needOnes" "[I", Cond.fieldLink RX3 24 "Bumpherald$Packages" "needLeasts" "[I", Cond.fieldLink RX3 27 "Bumpherald$Packages" "needMosts" "[I", Cond.static yX6_isWithin, Cond.initialized RX6, Cond.code yX6_isWithin cX6_isWithin 3 (some .boolean), Cond.methodLink RX2 40 yX2_bestPartner, Cond.instanceMethod yX2_bestPartner, Cond.selects RX2 yX2_bestPartner yX2_bestPartner, Cond.code yX2_bestPartner cX2_bestPartner 7 (some .int), Cond.methodLink RX2 44 yX2_join, Cond.instanceMethod yX2_join, Cond.selects RX2 yX2_join yX2_join, Cond.code yX2_join cX2_join 4 none, Cond.fieldLink RX2 23 "Bumpherald$Herding" "reviewers" "LBumpherald$Reviewers;", Cond.methodLink RX2 57 yX4_group, Cond.instanceMethod yX4_group, Cond.selects RX4 yX4_group yX4_group, Cond.code yX4_group cX4_group 4 none]
def wsX2_joinSleepers_r4 : List Cond := [Cond.methodLink RX2 61 yX5_giveAnew, Cond.instanceMethod yX5_giveAnew, Cond.selects RX5 yX5_giveAnew yX5_giveAnew, Cond.initialized RX5, Cond.code yX5_giveAnew cX5_giveAnew 4 none, Cond.fieldLink RX5 15 "Bumpherald$Reviewers" "raises" "LBumpherald$Raises;", Cond.fieldLink RX5 19 "Bumpherald$Raises" "openCount" "I", Cond.fieldLink RX5 25 "Bumpherald$Raises" "open" "[I", Cond.methodLink RX5 31 yX4_isIn, Cond.methodLink RX5 35 yX5_hasOwnReviewer, Cond.instanceMethod yX5_hasOwnReviewer, Cond.selects RX5 yX5_hasOwnReviewer yX5_hasOwnReviewer, Cond.code yX5_hasOwnReviewer cX5_hasOwnReviewer 3 (some .boolean), Cond.fieldLink RX5 28 "Bumpherald$Raises" "reviewers" "[I", Cond.methodLink RX5 47 yX5_reviewsAnother, Cond.instanceMethod yX5_reviewsAnother, Cond.selects RX5 yX5_reviewsAnother yX5_reviewsAnother, Cond.code yX5_reviewsAnother cX5_reviewsAnother 6 (some .boolean), Cond.fieldLink RX5 51 "Bumpherald$Raises" "groups" "[I", Cond.methodLink RX5 39 yX5_bestFor, Cond.instanceMethod yX5_bestFor, Cond.selects RX5 yX5_bestFor yX5_bestFor, Cond.code yX5_bestFor cX5_bestFor 6 (some .int), Cond.fieldLink RX5 9 "Bumpherald$Reviewers" "trusts" "[I"]
def wsX2_joinSleepers_r5 : List Cond := [Cond.fieldLink RX5 58 "Bumpherald$Raises" "risks" "[I", Cond.methodLink RX5 54 yX5_loadWithout, Cond.instanceMethod yX5_loadWithout, Cond.selects RX5 yX5_loadWithout yX5_loadWithout, Cond.code yX5_loadWithout cX5_loadWithout 6 (some .int), Cond.methodLink RX5 43 yX5_give, Cond.instanceMethod yX5_give, Cond.selects RX5 yX5_give yX5_give, Cond.code yX5_give cX5_give 3 none, Cond.fieldLink RX5 61 "Bumpherald$Raises" "approved" "[Z"]
def wsX2_joinSleepers : List Cond := .code yX2_joinSleepers cX2_joinSleepers 3 none :: ((wsX2_joinSleepers_r1 ++ (wsX2_joinSleepers_r2 ++ (wsX2_joinSleepers_r3 ++ (wsX2_joinSleepers_r4 ++ wsX2_joinSleepers_r5)))) ++ wsX20 ++ wsX40 ++ wsX30 ++ wsX50)
def wsX2_part_r1 : List Cond := [Cond.fieldLink RX2 19 "Bumpherald$Herding" "raises" "LBumpherald$Raises;", Cond.fieldLink RX2 66 "Bumpherald$Raises" "openCount" "I", Cond.fieldLink RX2 72 "Bumpherald$Raises" "approved" "[Z", Cond.fieldLink RX2 75 "Bumpherald$Raises" "open" "[I", Cond.fieldLink RX2 23 "Bumpherald$Herding" "reviewers" "LBumpherald$Reviewers;", Cond.methodLink RX2 69 yX4_isIn, Cond.instanceMethod yX4_isIn, Cond.selects RX4 yX4_isIn yX4_isIn, Cond.initialized RX4, Cond.code yX4_isIn cX4_isIn 3 (some .boolean), Cond.methodLink RX2 57 yX4_group, Cond.instanceMethod yX4_group, Cond.selects RX4 yX4_group yX4_group, Cond.code yX4_group cX4_group 4 none, Cond.fieldLink RX4 44 "Bumpherald$Raises" "openCount" "I", Cond.fieldLink RX4 37 "Bumpherald$Raises" "open" "[I", Cond.fieldLink RX4 34 "Bumpherald$Raises" "groups" "[I", Cond.methodLink RX4 54 yX4_isIn, Cond.methodLink RX2 61 yX5_giveAnew, Cond.instanceMethod yX5_giveAnew, Cond.selects RX5 yX5_giveAnew yX5_giveAnew, Cond.initialized RX5, Cond.code yX5_giveAnew cX5_giveAnew 4 none, Cond.fieldLink RX5 15 "Bumpherald$Reviewers" "raises" "LBumpherald$Raises;"]
def wsX2_part_r2 : List Cond := [Cond.fieldLink RX5 19 "Bumpherald$Raises" "openCount" "I", Cond.fieldLink RX5 25 "Bumpherald$Raises" "open" "[I", Cond.methodLink RX5 31 yX4_isIn, Cond.methodLink RX5 35 yX5_hasOwnReviewer, Cond.instanceMethod yX5_hasOwnReviewer, Cond.selects RX5 yX5_hasOwnReviewer yX5_hasOwnReviewer, Cond.code yX5_hasOwnReviewer cX5_hasOwnReviewer 3 (some .boolean), Cond.fieldLink RX5 28 "Bumpherald$Raises" "reviewers" "[I", Cond.methodLink RX5 47 yX5_reviewsAnother, Cond.instanceMethod yX5_reviewsAnother, Cond.selects RX5 yX5_reviewsAnother yX5_reviewsAnother, Cond.code yX5_reviewsAnother cX5_reviewsAnother 6 (some .boolean), Cond.fieldLink RX5 51 "Bumpherald$Raises" "groups" "[I", Cond.methodLink RX5 39 yX5_bestFor, Cond.instanceMethod yX5_bestFor, Cond.selects RX5 yX5_bestFor yX5_bestFor, Cond.code yX5_bestFor cX5_bestFor 6 (some .int), Cond.fieldLink RX5 9 "Bumpherald$Reviewers" "trusts" "[I", Cond.fieldLink RX5 58 "Bumpherald$Raises" "risks" "[I", Cond.methodLink RX5 54 yX5_loadWithout, Cond.instanceMethod yX5_loadWithout, Cond.selects RX5 yX5_loadWithout yX5_loadWithout, Cond.code yX5_loadWithout cX5_loadWithout 6 (some .int), Cond.methodLink RX5 43 yX5_give]
def wsX2_part_r3 : List Cond := [Cond.instanceMethod yX5_give, Cond.selects RX5 yX5_give yX5_give, Cond.code yX5_give cX5_give 3 none, Cond.fieldLink RX5 61 "Bumpherald$Raises" "approved" "[Z"]
def wsX2_part : List Cond := .code yX2_part cX2_part 3 none :: ((wsX2_part_r1 ++ (wsX2_part_r2 ++ wsX2_part_r3)) ++ wsX20 ++ wsX40 ++ wsX50)
def wsX2_mateOf : List Cond := .code yX2_mateOf cX2_mateOf 4 (some .int) :: ([.fieldLink RX2 19 "Bumpherald$Herding" "raises" "LBumpherald$Raises;", .fieldLink RX2 66 "Bumpherald$Raises" "openCount" "I", .fieldLink RX2 75 "Bumpherald$Raises" "open" "[I", .fieldLink RX2 32 "Bumpherald$Raises" "groups" "[I"] ++ wsX20 ++ wsX40)
def wsX4_bitOf : List Cond := .code yX4_bitOf cX4_bitOf 3 (some .int) :: ([.fieldLink RX4 44 "Bumpherald$Raises" "openCount" "I", .fieldLink RX4 37 "Bumpherald$Raises" "open" "[I"] ++ wsX40)
def wsX4_listOpen : List Cond := .code yX4_listOpen cX4_listOpen 2 none :: ([.fieldLink RX4 44 "Bumpherald$Raises" "openCount" "I", .fieldLink RX4 40 "Bumpherald$Raises" "count" "I", .fieldLink RX4 24 "Bumpherald$Raises" "states" "[I", .fieldLink RX4 37 "Bumpherald$Raises" "open" "[I"] ++ wsX40)
def wsX4_end : List Cond := .code yX4_end cX4_end 3 none :: ([.fieldLink RX4 24 "Bumpherald$Raises" "states" "[I", .fieldLink RX4 34 "Bumpherald$Raises" "groups" "[I", .methodLink RX4 51 yX4_listOpen, .instanceMethod yX4_listOpen, .selects RX4 yX4_listOpen yX4_listOpen, .initialized RX4, .code yX4_listOpen cX4_listOpen 2 none, .fieldLink RX4 44 "Bumpherald$Raises" "openCount" "I", .fieldLink RX4 40 "Bumpherald$Raises" "count" "I", .fieldLink RX4 37 "Bumpherald$Raises" "open" "[I"] ++ wsX40)
def wsX2_leave_r1 : List Cond := [Cond.fieldLink RX2 19 "Bumpherald$Herding" "raises" "LBumpherald$Raises;", Cond.fieldLink RX2 23 "Bumpherald$Herding" "reviewers" "LBumpherald$Reviewers;", Cond.methodLink RX2 78 yX2_mateOf, Cond.instanceMethod yX2_mateOf, Cond.selects RX2 yX2_mateOf yX2_mateOf, Cond.initialized RX2, Cond.code yX2_mateOf cX2_mateOf 4 (some .int), Cond.fieldLink RX2 66 "Bumpherald$Raises" "openCount" "I", Cond.fieldLink RX2 75 "Bumpherald$Raises" "open" "[I", Cond.fieldLink RX2 32 "Bumpherald$Raises" "groups" "[I", Cond.methodLink RX2 51 yX4_groupOf, Cond.instanceMethod yX4_groupOf, Cond.selects RX4 yX4_groupOf yX4_groupOf, Cond.initialized RX4, Cond.code yX4_groupOf cX4_groupOf 4 (some .int), Cond.fieldLink RX4 44 "Bumpherald$Raises" "openCount" "I", Cond.fieldLink RX4 34 "Bumpherald$Raises" "groups" "[I", Cond.fieldLink RX4 37 "Bumpherald$Raises" "open" "[I", Cond.methodLink RX2 81 yX4_bitOf, Cond.instanceMethod yX4_bitOf, Cond.selects RX4 yX4_bitOf yX4_bitOf, Cond.code yX4_bitOf cX4_bitOf 3 (some .int), Cond.methodLink RX2 57 yX4_group, Cond.instanceMethod yX4_group]
def wsX2_leave_r2 : List Cond := [Cond.selects RX4 yX4_group yX4_group, Cond.code yX4_group cX4_group 4 none, Cond.methodLink RX4 54 yX4_isIn, Cond.instanceMethod yX4_isIn, Cond.selects RX4 yX4_isIn yX4_isIn, Cond.code yX4_isIn cX4_isIn 3 (some .boolean), Cond.methodLink RX2 84 yX4_end, Cond.instanceMethod yX4_end, Cond.selects RX4 yX4_end yX4_end, Cond.code yX4_end cX4_end 3 none, Cond.fieldLink RX4 24 "Bumpherald$Raises" "states" "[I", Cond.methodLink RX4 51 yX4_listOpen, Cond.instanceMethod yX4_listOpen, Cond.selects RX4 yX4_listOpen yX4_listOpen, Cond.code yX4_listOpen cX4_listOpen 2 none, Cond.fieldLink RX4 40 "Bumpherald$Raises" "count" "I", Cond.methodLink RX2 61 yX5_giveAnew, Cond.instanceMethod yX5_giveAnew, Cond.selects RX5 yX5_giveAnew yX5_giveAnew, Cond.initialized RX5, Cond.code yX5_giveAnew cX5_giveAnew 4 none, Cond.fieldLink RX5 15 "Bumpherald$Reviewers" "raises" "LBumpherald$Raises;", Cond.fieldLink RX5 19 "Bumpherald$Raises" "openCount" "I", Cond.fieldLink RX5 25 "Bumpherald$Raises" "open" "[I"]
def wsX2_leave_r3 : List Cond := [Cond.methodLink RX5 31 yX4_isIn, Cond.methodLink RX5 35 yX5_hasOwnReviewer, Cond.instanceMethod yX5_hasOwnReviewer, Cond.selects RX5 yX5_hasOwnReviewer yX5_hasOwnReviewer, Cond.code yX5_hasOwnReviewer cX5_hasOwnReviewer 3 (some .boolean), Cond.fieldLink RX5 28 "Bumpherald$Raises" "reviewers" "[I", Cond.methodLink RX5 47 yX5_reviewsAnother, Cond.instanceMethod yX5_reviewsAnother, Cond.selects RX5 yX5_reviewsAnother yX5_reviewsAnother, Cond.code yX5_reviewsAnother cX5_reviewsAnother 6 (some .boolean), Cond.fieldLink RX5 51 "Bumpherald$Raises" "groups" "[I", Cond.methodLink RX5 39 yX5_bestFor, Cond.instanceMethod yX5_bestFor, Cond.selects RX5 yX5_bestFor yX5_bestFor, Cond.code yX5_bestFor cX5_bestFor 6 (some .int), Cond.fieldLink RX5 9 "Bumpherald$Reviewers" "trusts" "[I", Cond.fieldLink RX5 58 "Bumpherald$Raises" "risks" "[I", Cond.methodLink RX5 54 yX5_loadWithout, Cond.instanceMethod yX5_loadWithout, Cond.selects RX5 yX5_loadWithout yX5_loadWithout, Cond.code yX5_loadWithout cX5_loadWithout 6 (some .int), Cond.methodLink RX5 43 yX5_give, Cond.instanceMethod yX5_give, Cond.selects RX5 yX5_give yX5_give]
def wsX2_leave_r4 : List Cond := [Cond.code yX5_give cX5_give 3 none, Cond.fieldLink RX5 61 "Bumpherald$Raises" "approved" "[Z"]
def wsX2_leave : List Cond := .code yX2_leave cX2_leave 3 none :: ((wsX2_leave_r1 ++ (wsX2_leave_r2 ++ (wsX2_leave_r3 ++ wsX2_leave_r4))) ++ wsX20 ++ wsX40 ++ wsX50)
def wsX3_init : List Cond := .code yX3_init cX3_init 1 none :: ([.methodLink RX3 3 objectInit, .instanceMethod objectInit, .code objectInit ⟨#[0xb1]⟩ 1 none, .arrayClass .int, .fieldLink RX3 9 "Bumpherald$Packages" "versions" "[I", .fieldLink RX3 15 "Bumpherald$Packages" "planned" "[I", .fieldLink RX3 18 "Bumpherald$Packages" "needOnes" "[I", .fieldLink RX3 21 "Bumpherald$Packages" "needOthers" "[I", .fieldLink RX3 24 "Bumpherald$Packages" "needLeasts" "[I", .fieldLink RX3 27 "Bumpherald$Packages" "needMosts" "[I", .fieldLink RX3 30 "Bumpherald$Packages" "count" "I", .fieldLink RX3 34 "Bumpherald$Packages" "needCount" "I"] ++ wsX30)
def wsX3_add : List Cond := .code yX3_add cX3_add 2 (some .int) :: ([.fieldLink RX3 9 "Bumpherald$Packages" "versions" "[I", .fieldLink RX3 30 "Bumpherald$Packages" "count" "I"] ++ wsX30)
def wsX3_addNeed : List Cond := .code yX3_addNeed cX3_addNeed 5 (some .int) :: ([.fieldLink RX3 18 "Bumpherald$Packages" "needOnes" "[I", .fieldLink RX3 34 "Bumpherald$Packages" "needCount" "I", .fieldLink RX3 21 "Bumpherald$Packages" "needOthers" "[I", .fieldLink RX3 24 "Bumpherald$Packages" "needLeasts" "[I", .fieldLink RX3 27 "Bumpherald$Packages" "needMosts" "[I"] ++ wsX30)
def wsX4_init : List Cond := .code yX4_init cX4_init 2 none :: ([.methodLink RX4 3 objectInit, .instanceMethod objectInit, .code objectInit ⟨#[0xb1]⟩ 1 none, .arrayClass .int, .fieldLink RX4 9 "Bumpherald$Raises" "packs" "[I", .fieldLink RX4 15 "Bumpherald$Raises" "versions" "[I", .fieldLink RX4 18 "Bumpherald$Raises" "risks" "[I", .fieldLink RX4 21 "Bumpherald$Raises" "days" "[I", .fieldLink RX4 24 "Bumpherald$Raises" "states" "[I", .fieldLink RX4 27 "Bumpherald$Raises" "reviewers" "[I", .arrayClass .boolean, .fieldLink RX4 30 "Bumpherald$Raises" "approved" "[Z", .fieldLink RX4 34 "Bumpherald$Raises" "groups" "[I", .fieldLink RX4 37 "Bumpherald$Raises" "open" "[I", .fieldLink RX4 40 "Bumpherald$Raises" "count" "I", .fieldLink RX4 44 "Bumpherald$Raises" "openCount" "I", .fieldLink RX4 47 "Bumpherald$Raises" "packages" "LBumpherald$Packages;"] ++ wsX40)
def wsX4_add : List Cond := .code yX4_add cX4_add 6 (some .int) :: ([.fieldLink RX4 40 "Bumpherald$Raises" "count" "I", .fieldLink RX4 9 "Bumpherald$Raises" "packs" "[I", .fieldLink RX4 15 "Bumpherald$Raises" "versions" "[I", .fieldLink RX4 18 "Bumpherald$Raises" "risks" "[I", .fieldLink RX4 21 "Bumpherald$Raises" "days" "[I", .fieldLink RX4 24 "Bumpherald$Raises" "states" "[I", .fieldLink RX4 27 "Bumpherald$Raises" "reviewers" "[I", .fieldLink RX4 30 "Bumpherald$Raises" "approved" "[Z", .fieldLink RX4 34 "Bumpherald$Raises" "groups" "[I", .methodLink RX4 51 yX4_listOpen, .instanceMethod yX4_listOpen, .selects RX4 yX4_listOpen yX4_listOpen, .initialized RX4, .code yX4_listOpen cX4_listOpen 2 none, .fieldLink RX4 44 "Bumpherald$Raises" "openCount" "I", .fieldLink RX4 37 "Bumpherald$Raises" "open" "[I"] ++ wsX40)
def wsX4_areApproved : List Cond := .code yX4_areApproved cX4_areApproved 3 (some .boolean) :: ([.fieldLink RX4 44 "Bumpherald$Raises" "openCount" "I", .fieldLink RX4 30 "Bumpherald$Raises" "approved" "[Z", .fieldLink RX4 37 "Bumpherald$Raises" "open" "[I", .methodLink RX4 54 yX4_isIn, .instanceMethod yX4_isIn, .selects RX4 yX4_isIn yX4_isIn, .initialized RX4, .code yX4_isIn cX4_isIn 3 (some .boolean)] ++ wsX40)
def wsX4_packagesOf : List Cond := .code yX4_packagesOf cX4_packagesOf 4 (some .int) :: ([.fieldLink RX4 44 "Bumpherald$Raises" "openCount" "I", .fieldLink RX4 9 "Bumpherald$Raises" "packs" "[I", .fieldLink RX4 37 "Bumpherald$Raises" "open" "[I", .methodLink RX4 54 yX4_isIn, .instanceMethod yX4_isIn, .selects RX4 yX4_isIn yX4_isIn, .initialized RX4, .code yX4_isIn cX4_isIn 3 (some .boolean)] ++ wsX40)
def wsX4_release : List Cond := .code yX4_release cX4_release 5 none :: ([.fieldLink RX4 44 "Bumpherald$Raises" "openCount" "I", .fieldLink RX4 37 "Bumpherald$Raises" "open" "[I", .fieldLink RX4 47 "Bumpherald$Raises" "packages" "LBumpherald$Packages;", .fieldLink RX4 58 "Bumpherald$Packages" "versions" "[I", .fieldLink RX4 9 "Bumpherald$Raises" "packs" "[I", .fieldLink RX4 15 "Bumpherald$Raises" "versions" "[I", .methodLink RX4 54 yX4_isIn, .instanceMethod yX4_isIn, .selects RX4 yX4_isIn yX4_isIn, .initialized RX4, .code yX4_isIn cX4_isIn 3 (some .boolean), .methodLink RX4 61 yX4_end, .instanceMethod yX4_end, .selects RX4 yX4_end yX4_end, .code yX4_end cX4_end 3 none, .fieldLink RX4 24 "Bumpherald$Raises" "states" "[I", .fieldLink RX4 34 "Bumpherald$Raises" "groups" "[I", .methodLink RX4 51 yX4_listOpen, .instanceMethod yX4_listOpen, .selects RX4 yX4_listOpen yX4_listOpen, .code yX4_listOpen cX4_listOpen 2 none, .fieldLink RX4 40 "Bumpherald$Raises" "count" "I"] ++ wsX40 ++ wsX30)
def wsX5_init : List Cond := .code yX5_init cX5_init 3 none :: ([.methodLink RX5 3 objectInit, .instanceMethod objectInit, .code objectInit ⟨#[0xb1]⟩ 1 none, .arrayClass .int, .fieldLink RX5 9 "Bumpherald$Reviewers" "trusts" "[I", .fieldLink RX5 15 "Bumpherald$Reviewers" "raises" "LBumpherald$Raises;"] ++ wsX50)
def wsX6_init_r1 : List Cond := [Cond.methodLink RX6 1 objectInit, Cond.instanceMethod objectInit, Cond.code objectInit ⟨#[0xb1]⟩ 1 none, Cond.classLink RX6 7 RX3, Cond.instantiable RX3 8, Cond.initialized RX3, Cond.fieldLink RX6 10 "Bumpherald" "packages" "LBumpherald$Packages;", Cond.classLink RX6 16 RX1, Cond.instantiable RX1 4, Cond.initialized RX1, Cond.fieldLink RX6 19 "Bumpherald" "freezes" "LBumpherald$Freezes;", Cond.classLink RX6 23 RX4, Cond.instantiable RX4 12, Cond.initialized RX4, Cond.fieldLink RX6 28 "Bumpherald" "raises" "LBumpherald$Raises;", Cond.classLink RX6 32 RX5, Cond.instantiable RX5 2, Cond.initialized RX5, Cond.fieldLink RX6 37 "Bumpherald" "reviewers" "LBumpherald$Reviewers;", Cond.classLink RX6 41 RX2, Cond.instantiable RX2 4, Cond.initialized RX2, Cond.fieldLink RX6 46 "Bumpherald" "herding" "LBumpherald$Herding;", Cond.fieldLink RX6 50 "Bumpherald" "today" "I"]
def wsX6_init_r2 : List Cond := [Cond.instanceMethod yX3_init, Cond.code yX3_init cX3_init 1 none, Cond.methodLink RX3 3 objectInit, Cond.arrayClass .int, Cond.fieldLink RX3 9 "Bumpherald$Packages" "versions" "[I", Cond.fieldLink RX3 15 "Bumpherald$Packages" "planned" "[I", Cond.fieldLink RX3 18 "Bumpherald$Packages" "needOnes" "[I", Cond.fieldLink RX3 21 "Bumpherald$Packages" "needOthers" "[I", Cond.fieldLink RX3 24 "Bumpherald$Packages" "needLeasts" "[I", Cond.fieldLink RX3 27 "Bumpherald$Packages" "needMosts" "[I", Cond.fieldLink RX3 30 "Bumpherald$Packages" "count" "I", Cond.fieldLink RX3 34 "Bumpherald$Packages" "needCount" "I", Cond.instanceMethod yX1_init, Cond.code yX1_init cX1_init 1 none, Cond.methodLink RX1 3 objectInit, Cond.fieldLink RX1 9 "Bumpherald$Freezes" "sets" "[I", Cond.fieldLink RX1 15 "Bumpherald$Freezes" "firstDays" "[I", Cond.fieldLink RX1 18 "Bumpherald$Freezes" "lastDays" "[I", Cond.fieldLink RX1 21 "Bumpherald$Freezes" "count" "I", Cond.methodLink RX6 25 yX4_init, Cond.instanceMethod yX4_init, Cond.code yX4_init cX4_init 2 none, Cond.methodLink RX4 3 objectInit, Cond.fieldLink RX4 9 "Bumpherald$Raises" "packs" "[I"]
def wsX6_init_r3 : List Cond := [Cond.fieldLink RX4 15 "Bumpherald$Raises" "versions" "[I", Cond.fieldLink RX4 18 "Bumpherald$Raises" "risks" "[I", Cond.fieldLink RX4 21 "Bumpherald$Raises" "days" "[I", Cond.fieldLink RX4 24 "Bumpherald$Raises" "states" "[I", Cond.fieldLink RX4 27 "Bumpherald$Raises" "reviewers" "[I", Cond.arrayClass .boolean, Cond.fieldLink RX4 30 "Bumpherald$Raises" "approved" "[Z", Cond.fieldLink RX4 34 "Bumpherald$Raises" "groups" "[I", Cond.fieldLink RX4 37 "Bumpherald$Raises" "open" "[I", Cond.fieldLink RX4 40 "Bumpherald$Raises" "count" "I", Cond.fieldLink RX4 44 "Bumpherald$Raises" "openCount" "I", Cond.fieldLink RX4 47 "Bumpherald$Raises" "packages" "LBumpherald$Packages;", Cond.methodLink RX6 34 yX5_init, Cond.instanceMethod yX5_init, Cond.code yX5_init cX5_init 3 none, Cond.methodLink RX5 3 objectInit, Cond.fieldLink RX5 9 "Bumpherald$Reviewers" "trusts" "[I", Cond.fieldLink RX5 15 "Bumpherald$Reviewers" "raises" "LBumpherald$Raises;", Cond.methodLink RX6 43 yX2_init, Cond.instanceMethod yX2_init, Cond.code yX2_init cX2_init 3 none, Cond.methodLink RX2 3 objectInit, Cond.fieldLink RX2 9 "Bumpherald$Herding" "waiting" "[Z", Cond.fieldLink RX2 15 "Bumpherald$Herding" "patience" "I"]
def wsX6_init_r4 : List Cond := [Cond.fieldLink RX2 19 "Bumpherald$Herding" "raises" "LBumpherald$Raises;", Cond.fieldLink RX2 23 "Bumpherald$Herding" "reviewers" "LBumpherald$Reviewers;"]
def wsX6_init : List Cond := .code yX6_init cX6_init 1 none :: ((wsX6_init_r1 ++ (wsX6_init_r2 ++ (wsX6_init_r3 ++ wsX6_init_r4))) ++ wsX30 ++ wsX60 ++ wsX10 ++ wsX40 ++ wsX50 ++ wsX20)
def wsX6_pack : List Cond := .code yX6_pack cX6_pack 2 (some .int) :: ([.classLink RX6 58 "java/lang/IllegalArgumentException", .initialized "java/lang/IllegalArgumentException", .classLink RX6 68 "java/lang/IllegalStateException", .initialized "java/lang/IllegalStateException", .fieldLink RX6 10 "Bumpherald" "packages" "LBumpherald$Packages;", .fieldLink RX6 65 "Bumpherald$Packages" "count" "I", .methodLink RX6 54 yX6_isWithin, .static yX6_isWithin, .initialized RX6, .code yX6_isWithin cX6_isWithin 3 (some .boolean), .methodLink RX6 73 yX3_add, .instanceMethod yX3_add, .selects RX3 yX3_add yX3_add, .initialized RX3, .code yX3_add cX3_add 2 (some .int), .fieldLink RX3 9 "Bumpherald$Packages" "versions" "[I", .fieldLink RX3 30 "Bumpherald$Packages" "count" "I"] ++ wsX60 ++ wsX30 ++ (vx_atS RX6 62 "java/lang/IllegalArgumentException" ["java/lang/RuntimeException", "java/lang/Exception"]).filter goodWord ++ (vx_atS RX6 72 "java/lang/IllegalStateException" ["java/lang/RuntimeException", "java/lang/Exception"]).filter goodWord)
def wsX6_checkPackage : List Cond := .code yX6_checkPackage cX6_checkPackage 2 none :: ([.classLink RX6 216 "java/lang/IndexOutOfBoundsException", .initialized "java/lang/IndexOutOfBoundsException", .fieldLink RX6 10 "Bumpherald" "packages" "LBumpherald$Packages;", .fieldLink RX6 65 "Bumpherald$Packages" "count" "I", .methodLink RX6 54 yX6_isWithin, .static yX6_isWithin, .initialized RX6, .code yX6_isWithin cX6_isWithin 3 (some .boolean)] ++ wsX60 ++ wsX30 ++ (vx_atS RX6 220 "java/lang/IndexOutOfBoundsException" ["java/lang/RuntimeException", "java/lang/Exception"]).filter goodWord)
def wsX6_need_r1 : List Cond := [Cond.classLink RX6 58 "java/lang/IllegalArgumentException", Cond.initialized "java/lang/IllegalArgumentException", Cond.classLink RX6 68 "java/lang/IllegalStateException", Cond.initialized "java/lang/IllegalStateException", Cond.fieldLink RX6 10 "Bumpherald" "packages" "LBumpherald$Packages;", Cond.fieldLink RX6 83 "Bumpherald$Packages" "versions" "[I", Cond.fieldLink RX6 89 "Bumpherald$Packages" "needCount" "I", Cond.methodLink RX6 77 yX6_checkPackage, Cond.instanceMethod yX6_checkPackage, Cond.selects RX6 yX6_checkPackage yX6_checkPackage, Cond.initialized RX6, Cond.code yX6_checkPackage cX6_checkPackage 2 none, Cond.classLink RX6 216 "java/lang/IndexOutOfBoundsException", Cond.initialized "java/lang/IndexOutOfBoundsException", Cond.fieldLink RX6 65 "Bumpherald$Packages" "count" "I", Cond.methodLink RX6 54 yX6_isWithin, Cond.static yX6_isWithin, Cond.code yX6_isWithin cX6_isWithin 3 (some .boolean), Cond.methodLink RX6 94 yX3_addNeed, Cond.instanceMethod yX3_addNeed, Cond.selects RX3 yX3_addNeed yX3_addNeed, Cond.initialized RX3, Cond.code yX3_addNeed cX3_addNeed 5 (some .int), Cond.fieldLink RX3 18 "Bumpherald$Packages" "needOnes" "[I"]
def wsX6_need_r2 : List Cond := [Cond.fieldLink RX3 34 "Bumpherald$Packages" "needCount" "I", Cond.fieldLink RX3 21 "Bumpherald$Packages" "needOthers" "[I", Cond.fieldLink RX3 24 "Bumpherald$Packages" "needLeasts" "[I", Cond.fieldLink RX3 27 "Bumpherald$Packages" "needMosts" "[I"]
def wsX6_need : List Cond := .code yX6_need cX6_need 5 (some .int) :: ((wsX6_need_r1 ++ wsX6_need_r2) ++ wsX60 ++ wsX30 ++ (vx_atS RX6 62 "java/lang/IllegalArgumentException" ["java/lang/RuntimeException", "java/lang/Exception"]).filter goodWord ++ (vx_atS RX6 72 "java/lang/IllegalStateException" ["java/lang/RuntimeException", "java/lang/Exception"]).filter goodWord ++ (vx_atS RX6 220 "java/lang/IndexOutOfBoundsException" ["java/lang/RuntimeException", "java/lang/Exception"]).filter goodWord)
def wsX6_checkReviewer : List Cond := .code yX6_checkReviewer cX6_checkReviewer 2 none :: ([.classLink RX6 216 "java/lang/IndexOutOfBoundsException", .initialized "java/lang/IndexOutOfBoundsException", .methodLink RX6 54 yX6_isWithin, .static yX6_isWithin, .initialized RX6, .code yX6_isWithin cX6_isWithin 3 (some .boolean)] ++ (vx_atS RX6 220 "java/lang/IndexOutOfBoundsException" ["java/lang/RuntimeException", "java/lang/Exception"]).filter goodWord)
def wsX6_trust : List Cond := .code yX6_trust cX6_trust 4 (some .int) :: ([.classLink RX6 58 "java/lang/IllegalArgumentException", .initialized "java/lang/IllegalArgumentException", .fieldLink RX6 37 "Bumpherald" "reviewers" "LBumpherald$Reviewers;", .fieldLink RX6 103 "Bumpherald$Reviewers" "trusts" "[I", .methodLink RX6 98 yX6_checkReviewer, .instanceMethod yX6_checkReviewer, .selects RX6 yX6_checkReviewer yX6_checkReviewer, .initialized RX6, .code yX6_checkReviewer cX6_checkReviewer 2 none, .classLink RX6 216 "java/lang/IndexOutOfBoundsException", .initialized "java/lang/IndexOutOfBoundsException", .methodLink RX6 54 yX6_isWithin, .static yX6_isWithin, .code yX6_isWithin cX6_isWithin 3 (some .boolean)] ++ wsX60 ++ wsX50 ++ (vx_atS RX6 62 "java/lang/IllegalArgumentException" ["java/lang/RuntimeException", "java/lang/Exception"]).filter goodWord ++ (vx_atS RX6 220 "java/lang/IndexOutOfBoundsException" ["java/lang/RuntimeException", "java/lang/Exception"]).filter goodWord)
def wsX6_patience : List Cond := .code yX6_patience cX6_patience 3 (some .int) :: ([.classLink RX6 58 "java/lang/IllegalArgumentException", .initialized "java/lang/IllegalArgumentException", .fieldLink RX6 46 "Bumpherald" "herding" "LBumpherald$Herding;", .fieldLink RX6 108 "Bumpherald$Herding" "patience" "I", .methodLink RX6 54 yX6_isWithin, .static yX6_isWithin, .initialized RX6, .code yX6_isWithin cX6_isWithin 3 (some .boolean)] ++ wsX60 ++ wsX20 ++ (vx_atS RX6 62 "java/lang/IllegalArgumentException" ["java/lang/RuntimeException", "java/lang/Exception"]).filter goodWord)
def wsX6_freeze : List Cond := .code yX6_freeze cX6_freeze 4 (some .int) :: ([.classLink RX6 58 "java/lang/IllegalArgumentException", .initialized "java/lang/IllegalArgumentException", .classLink RX6 68 "java/lang/IllegalStateException", .initialized "java/lang/IllegalStateException", .fieldLink RX6 19 "Bumpherald" "freezes" "LBumpherald$Freezes;", .fieldLink RX6 113 "Bumpherald$Freezes" "count" "I", .methodLink RX6 54 yX6_isWithin, .static yX6_isWithin, .initialized RX6, .code yX6_isWithin cX6_isWithin 3 (some .boolean), .methodLink RX6 116 yX1_add, .instanceMethod yX1_add, .selects RX1 yX1_add yX1_add, .initialized RX1, .code yX1_add cX1_add 4 (some .int), .fieldLink RX1 9 "Bumpherald$Freezes" "sets" "[I", .fieldLink RX1 21 "Bumpherald$Freezes" "count" "I", .fieldLink RX1 15 "Bumpherald$Freezes" "firstDays" "[I", .fieldLink RX1 18 "Bumpherald$Freezes" "lastDays" "[I"] ++ wsX60 ++ wsX10 ++ (vx_atS RX6 62 "java/lang/IllegalArgumentException" ["java/lang/RuntimeException", "java/lang/Exception"]).filter goodWord ++ (vx_atS RX6 72 "java/lang/IllegalStateException" ["java/lang/RuntimeException", "java/lang/Exception"]).filter goodWord)
def wsX6_raise_r1 : List Cond := [Cond.classLink RX6 58 "java/lang/IllegalArgumentException", Cond.initialized "java/lang/IllegalArgumentException", Cond.classLink RX6 68 "java/lang/IllegalStateException", Cond.initialized "java/lang/IllegalStateException", Cond.fieldLink RX6 10 "Bumpherald" "packages" "LBumpherald$Packages;", Cond.fieldLink RX6 83 "Bumpherald$Packages" "versions" "[I", Cond.fieldLink RX6 28 "Bumpherald" "raises" "LBumpherald$Raises;", Cond.fieldLink RX6 126 "Bumpherald$Raises" "openCount" "I", Cond.fieldLink RX6 129 "Bumpherald$Raises" "count" "I", Cond.fieldLink RX6 50 "Bumpherald" "today" "I", Cond.fieldLink RX6 37 "Bumpherald" "reviewers" "LBumpherald$Reviewers;", Cond.methodLink RX6 77 yX6_checkPackage, Cond.instanceMethod yX6_checkPackage, Cond.selects RX6 yX6_checkPackage yX6_checkPackage, Cond.initialized RX6, Cond.code yX6_checkPackage cX6_checkPackage 2 none, Cond.classLink RX6 216 "java/lang/IndexOutOfBoundsException", Cond.initialized "java/lang/IndexOutOfBoundsException", Cond.fieldLink RX6 65 "Bumpherald$Packages" "count" "I", Cond.methodLink RX6 54 yX6_isWithin, Cond.static yX6_isWithin, Cond.code yX6_isWithin cX6_isWithin 3 (some .boolean), Cond.methodLink RX6 123 yX4_bitOfPackage, Cond.instanceMethod yX4_bitOfPackage]
def wsX6_raise_r2 : List Cond := [Cond.selects RX4 yX4_bitOfPackage yX4_bitOfPackage, Cond.initialized RX4, Cond.code yX4_bitOfPackage cX4_bitOfPackage 3 (some .int), Cond.fieldLink RX4 44 "Bumpherald$Raises" "openCount" "I", Cond.fieldLink RX4 9 "Bumpherald$Raises" "packs" "[I", Cond.fieldLink RX4 37 "Bumpherald$Raises" "open" "[I", Cond.methodLink RX6 132 yX4_add, Cond.instanceMethod yX4_add, Cond.selects RX4 yX4_add yX4_add, Cond.code yX4_add cX4_add 6 (some .int), Cond.fieldLink RX4 40 "Bumpherald$Raises" "count" "I", Cond.fieldLink RX4 15 "Bumpherald$Raises" "versions" "[I", Cond.fieldLink RX4 18 "Bumpherald$Raises" "risks" "[I", Cond.fieldLink RX4 21 "Bumpherald$Raises" "days" "[I", Cond.fieldLink RX4 24 "Bumpherald$Raises" "states" "[I", Cond.fieldLink RX4 27 "Bumpherald$Raises" "reviewers" "[I", Cond.fieldLink RX4 30 "Bumpherald$Raises" "approved" "[Z", Cond.fieldLink RX4 34 "Bumpherald$Raises" "groups" "[I", Cond.methodLink RX4 51 yX4_listOpen, Cond.instanceMethod yX4_listOpen, Cond.selects RX4 yX4_listOpen yX4_listOpen, Cond.code yX4_listOpen cX4_listOpen 2 none, Cond.methodLink RX6 134 yX4_bitOf, Cond.instanceMethod yX4_bitOf]
def wsX6_raise_r3 : List Cond := [Cond.selects RX4 yX4_bitOf yX4_bitOf, Cond.code yX4_bitOf cX4_bitOf 3 (some .int), Cond.methodLink RX6 137 yX5_giveAnew, Cond.instanceMethod yX5_giveAnew, Cond.selects RX5 yX5_giveAnew yX5_giveAnew, Cond.initialized RX5, Cond.code yX5_giveAnew cX5_giveAnew 4 none, Cond.fieldLink RX5 15 "Bumpherald$Reviewers" "raises" "LBumpherald$Raises;", Cond.fieldLink RX5 19 "Bumpherald$Raises" "openCount" "I", Cond.fieldLink RX5 25 "Bumpherald$Raises" "open" "[I", Cond.methodLink RX5 31 yX4_isIn, Cond.instanceMethod yX4_isIn, Cond.selects RX4 yX4_isIn yX4_isIn, Cond.code yX4_isIn cX4_isIn 3 (some .boolean), Cond.methodLink RX5 35 yX5_hasOwnReviewer, Cond.instanceMethod yX5_hasOwnReviewer, Cond.selects RX5 yX5_hasOwnReviewer yX5_hasOwnReviewer, Cond.code yX5_hasOwnReviewer cX5_hasOwnReviewer 3 (some .boolean), Cond.fieldLink RX5 28 "Bumpherald$Raises" "reviewers" "[I", Cond.methodLink RX5 47 yX5_reviewsAnother, Cond.instanceMethod yX5_reviewsAnother, Cond.selects RX5 yX5_reviewsAnother yX5_reviewsAnother, Cond.code yX5_reviewsAnother cX5_reviewsAnother 6 (some .boolean), Cond.fieldLink RX5 51 "Bumpherald$Raises" "groups" "[I"]
def wsX6_raise_r4 : List Cond := [Cond.methodLink RX5 39 yX5_bestFor, Cond.instanceMethod yX5_bestFor, Cond.selects RX5 yX5_bestFor yX5_bestFor, Cond.code yX5_bestFor cX5_bestFor 6 (some .int), Cond.fieldLink RX5 9 "Bumpherald$Reviewers" "trusts" "[I", Cond.fieldLink RX5 58 "Bumpherald$Raises" "risks" "[I", Cond.methodLink RX5 54 yX5_loadWithout, Cond.instanceMethod yX5_loadWithout, Cond.selects RX5 yX5_loadWithout yX5_loadWithout, Cond.code yX5_loadWithout cX5_loadWithout 6 (some .int), Cond.methodLink RX5 43 yX5_give, Cond.instanceMethod yX5_give, Cond.selects RX5 yX5_give yX5_give, Cond.code yX5_give cX5_give 3 none, Cond.fieldLink RX5 61 "Bumpherald$Raises" "approved" "[Z"]
def wsX6_raise : List Cond := .code yX6_raise cX6_raise 5 (some .int) :: ((wsX6_raise_r1 ++ (wsX6_raise_r2 ++ (wsX6_raise_r3 ++ wsX6_raise_r4))) ++ wsX60 ++ wsX30 ++ wsX40 ++ wsX50 ++ (vx_atS RX6 62 "java/lang/IllegalArgumentException" ["java/lang/RuntimeException", "java/lang/Exception"]).filter goodWord ++ (vx_atS RX6 72 "java/lang/IllegalStateException" ["java/lang/RuntimeException", "java/lang/Exception"]).filter goodWord ++ (vx_atS RX6 220 "java/lang/IndexOutOfBoundsException" ["java/lang/RuntimeException", "java/lang/Exception"]).filter goodWord)
def wsX6_checkRaise : List Cond := .code yX6_checkRaise cX6_checkRaise 2 none :: ([.classLink RX6 216 "java/lang/IndexOutOfBoundsException", .initialized "java/lang/IndexOutOfBoundsException", .fieldLink RX6 28 "Bumpherald" "raises" "LBumpherald$Raises;", .fieldLink RX6 129 "Bumpherald$Raises" "count" "I", .methodLink RX6 54 yX6_isWithin, .static yX6_isWithin, .initialized RX6, .code yX6_isWithin cX6_isWithin 3 (some .boolean)] ++ wsX60 ++ wsX40 ++ (vx_atS RX6 220 "java/lang/IndexOutOfBoundsException" ["java/lang/RuntimeException", "java/lang/Exception"]).filter goodWord)
def wsX6_checkOpen : List Cond := .code yX6_checkOpen cX6_checkOpen 2 none :: ([.classLink RX6 68 "java/lang/IllegalStateException", .initialized "java/lang/IllegalStateException", .fieldLink RX6 28 "Bumpherald" "raises" "LBumpherald$Raises;", .fieldLink RX6 188 "Bumpherald$Raises" "states" "[I", .methodLink RX6 185 yX6_checkRaise, .instanceMethod yX6_checkRaise, .selects RX6 yX6_checkRaise yX6_checkRaise, .initialized RX6, .code yX6_checkRaise cX6_checkRaise 2 none, .classLink RX6 216 "java/lang/IndexOutOfBoundsException", .initialized "java/lang/IndexOutOfBoundsException", .fieldLink RX6 129 "Bumpherald$Raises" "count" "I", .methodLink RX6 54 yX6_isWithin, .static yX6_isWithin, .code yX6_isWithin cX6_isWithin 3 (some .boolean)] ++ wsX60 ++ wsX40 ++ (vx_atS RX6 72 "java/lang/IllegalStateException" ["java/lang/RuntimeException", "java/lang/Exception"]).filter goodWord ++ (vx_atS RX6 220 "java/lang/IndexOutOfBoundsException" ["java/lang/RuntimeException", "java/lang/Exception"]).filter goodWord)
def wsX6_approve : List Cond := .code yX6_approve cX6_approve 3 (some .boolean) :: ([.classLink RX6 68 "java/lang/IllegalStateException", .initialized "java/lang/IllegalStateException", .fieldLink RX6 28 "Bumpherald" "raises" "LBumpherald$Raises;", .fieldLink RX6 143 "Bumpherald$Raises" "reviewers" "[I", .fieldLink RX6 147 "Bumpherald$Raises" "approved" "[Z", .methodLink RX6 140 yX6_checkOpen, .instanceMethod yX6_checkOpen, .selects RX6 yX6_checkOpen yX6_checkOpen, .initialized RX6, .code yX6_checkOpen cX6_checkOpen 2 none, .fieldLink RX6 188 "Bumpherald$Raises" "states" "[I", .methodLink RX6 185 yX6_checkRaise, .instanceMethod yX6_checkRaise, .selects RX6 yX6_checkRaise yX6_checkRaise, .code yX6_checkRaise cX6_checkRaise 2 none, .classLink RX6 216 "java/lang/IndexOutOfBoundsException", .initialized "java/lang/IndexOutOfBoundsException", .fieldLink RX6 129 "Bumpherald$Raises" "count" "I", .methodLink RX6 54 yX6_isWithin, .static yX6_isWithin, .code yX6_isWithin cX6_isWithin 3 (some .boolean)] ++ wsX60 ++ wsX40 ++ (vx_atS RX6 72 "java/lang/IllegalStateException" ["java/lang/RuntimeException", "java/lang/Exception"]).filter goodWord ++ (vx_atS RX6 220 "java/lang/IndexOutOfBoundsException" ["java/lang/RuntimeException", "java/lang/Exception"]).filter goodWord)
def wsX6_isLandable_r1 : List Cond := [Cond.fieldLink RX6 28 "Bumpherald" "raises" "LBumpherald$Raises;", Cond.fieldLink RX6 19 "Bumpherald" "freezes" "LBumpherald$Freezes;", Cond.fieldLink RX6 50 "Bumpherald" "today" "I", Cond.methodLink RX6 200 yX4_failing, Cond.instanceMethod yX4_failing, Cond.selects RX4 yX4_failing yX4_failing, Cond.initialized RX4, Cond.code yX4_failing cX4_failing 2 (some .int), Cond.fieldLink RX4 47 "Bumpherald$Raises" "packages" "LBumpherald$Packages;", Cond.methodLink RX4 65 yX4_plan, Cond.instanceMethod yX4_plan, Cond.selects RX4 yX4_plan yX4_plan, Cond.code yX4_plan cX4_plan 3 none, Cond.fieldLink RX4 44 "Bumpherald$Raises" "openCount" "I", Cond.fieldLink RX4 79 "Bumpherald$Packages" "planned" "[I", Cond.fieldLink RX4 9 "Bumpherald$Raises" "packs" "[I", Cond.fieldLink RX4 37 "Bumpherald$Raises" "open" "[I", Cond.fieldLink RX4 15 "Bumpherald$Raises" "versions" "[I", Cond.methodLink RX4 76 yX3_startPlan, Cond.instanceMethod yX3_startPlan, Cond.selects RX3 yX3_startPlan yX3_startPlan, Cond.initialized RX3, Cond.code yX3_startPlan cX3_startPlan 2 none, Cond.fieldLink RX3 30 "Bumpherald$Packages" "count" "I"]
def wsX6_isLandable_r2 : List Cond := [Cond.fieldLink RX3 15 "Bumpherald$Packages" "planned" "[I", Cond.fieldLink RX3 9 "Bumpherald$Packages" "versions" "[I", Cond.methodLink RX4 54 yX4_isIn, Cond.instanceMethod yX4_isIn, Cond.selects RX4 yX4_isIn yX4_isIn, Cond.code yX4_isIn cX4_isIn 3 (some .boolean), Cond.methodLink RX4 69 yX3_failingInPlan, Cond.instanceMethod yX3_failingInPlan, Cond.selects RX3 yX3_failingInPlan yX3_failingInPlan, Cond.code yX3_failingInPlan cX3_failingInPlan 3 (some .int), Cond.fieldLink RX3 34 "Bumpherald$Packages" "needCount" "I", Cond.methodLink RX3 37 yX3_holdsInPlan, Cond.instanceMethod yX3_holdsInPlan, Cond.selects RX3 yX3_holdsInPlan yX3_holdsInPlan, Cond.code yX3_holdsInPlan cX3_holdsInPlan 3 (some .boolean), Cond.fieldLink RX3 21 "Bumpherald$Packages" "needOthers" "[I", Cond.fieldLink RX3 18 "Bumpherald$Packages" "needOnes" "[I", Cond.fieldLink RX3 24 "Bumpherald$Packages" "needLeasts" "[I", Cond.fieldLink RX3 27 "Bumpherald$Packages" "needMosts" "[I", Cond.static yX6_isWithin, Cond.initialized RX6, Cond.code yX6_isWithin cX6_isWithin 3 (some .boolean), Cond.methodLink RX6 229 yX4_areApproved, Cond.instanceMethod yX4_areApproved]
def wsX6_isLandable_r3 : List Cond := [Cond.selects RX4 yX4_areApproved yX4_areApproved, Cond.code yX4_areApproved cX4_areApproved 3 (some .boolean), Cond.fieldLink RX4 30 "Bumpherald$Raises" "approved" "[Z", Cond.methodLink RX6 232 yX4_packagesOf, Cond.instanceMethod yX4_packagesOf, Cond.selects RX4 yX4_packagesOf yX4_packagesOf, Cond.code yX4_packagesOf cX4_packagesOf 4 (some .int), Cond.methodLink RX6 235 yX1_isFrozen, Cond.instanceMethod yX1_isFrozen, Cond.selects RX1 yX1_isFrozen yX1_isFrozen, Cond.initialized RX1, Cond.code yX1_isFrozen cX1_isFrozen 4 (some .boolean), Cond.fieldLink RX1 21 "Bumpherald$Freezes" "count" "I", Cond.fieldLink RX1 9 "Bumpherald$Freezes" "sets" "[I", Cond.fieldLink RX1 15 "Bumpherald$Freezes" "firstDays" "[I", Cond.fieldLink RX1 18 "Bumpherald$Freezes" "lastDays" "[I"]
def wsX6_isLandable : List Cond := .code yX6_isLandable cX6_isLandable 2 (some .boolean) :: ((wsX6_isLandable_r1 ++ (wsX6_isLandable_r2 ++ wsX6_isLandable_r3)) ++ wsX60 ++ wsX40 ++ wsX30 ++ wsX10)
def wsX6_land_r1 : List Cond := [Cond.classLink RX6 68 "java/lang/IllegalStateException", Cond.initialized "java/lang/IllegalStateException", Cond.fieldLink RX6 28 "Bumpherald" "raises" "LBumpherald$Raises;", Cond.fieldLink RX6 46 "Bumpherald" "herding" "LBumpherald$Herding;", Cond.methodLink RX6 140 yX6_checkOpen, Cond.instanceMethod yX6_checkOpen, Cond.selects RX6 yX6_checkOpen yX6_checkOpen, Cond.initialized RX6, Cond.code yX6_checkOpen cX6_checkOpen 2 none, Cond.fieldLink RX6 188 "Bumpherald$Raises" "states" "[I", Cond.methodLink RX6 185 yX6_checkRaise, Cond.instanceMethod yX6_checkRaise, Cond.selects RX6 yX6_checkRaise yX6_checkRaise, Cond.code yX6_checkRaise cX6_checkRaise 2 none, Cond.classLink RX6 216 "java/lang/IndexOutOfBoundsException", Cond.initialized "java/lang/IndexOutOfBoundsException", Cond.fieldLink RX6 129 "Bumpherald$Raises" "count" "I", Cond.methodLink RX6 54 yX6_isWithin, Cond.static yX6_isWithin, Cond.code yX6_isWithin cX6_isWithin 3 (some .boolean), Cond.methodLink RX6 151 yX4_groupOf, Cond.instanceMethod yX4_groupOf, Cond.selects RX4 yX4_groupOf yX4_groupOf, Cond.initialized RX4]
def wsX6_land_r2 : List Cond := [Cond.code yX4_groupOf cX4_groupOf 4 (some .int), Cond.fieldLink RX4 44 "Bumpherald$Raises" "openCount" "I", Cond.fieldLink RX4 34 "Bumpherald$Raises" "groups" "[I", Cond.fieldLink RX4 37 "Bumpherald$Raises" "open" "[I", Cond.methodLink RX6 154 yX6_isLandable, Cond.instanceMethod yX6_isLandable, Cond.selects RX6 yX6_isLandable yX6_isLandable, Cond.code yX6_isLandable cX6_isLandable 2 (some .boolean), Cond.fieldLink RX6 19 "Bumpherald" "freezes" "LBumpherald$Freezes;", Cond.fieldLink RX6 50 "Bumpherald" "today" "I", Cond.methodLink RX6 200 yX4_failing, Cond.instanceMethod yX4_failing, Cond.selects RX4 yX4_failing yX4_failing, Cond.code yX4_failing cX4_failing 2 (some .int), Cond.fieldLink RX4 47 "Bumpherald$Raises" "packages" "LBumpherald$Packages;", Cond.methodLink RX4 65 yX4_plan, Cond.instanceMethod yX4_plan, Cond.selects RX4 yX4_plan yX4_plan, Cond.code yX4_plan cX4_plan 3 none, Cond.fieldLink RX4 79 "Bumpherald$Packages" "planned" "[I", Cond.fieldLink RX4 9 "Bumpherald$Raises" "packs" "[I", Cond.fieldLink RX4 15 "Bumpherald$Raises" "versions" "[I", Cond.methodLink RX4 76 yX3_startPlan, Cond.instanceMethod yX3_startPlan]
def wsX6_land_r3 : List Cond := [Cond.selects RX3 yX3_startPlan yX3_startPlan, Cond.initialized RX3, Cond.code yX3_startPlan cX3_startPlan 2 none, Cond.fieldLink RX3 30 "Bumpherald$Packages" "count" "I", Cond.fieldLink RX3 15 "Bumpherald$Packages" "planned" "[I", Cond.fieldLink RX3 9 "Bumpherald$Packages" "versions" "[I", Cond.methodLink RX4 54 yX4_isIn, Cond.instanceMethod yX4_isIn, Cond.selects RX4 yX4_isIn yX4_isIn, Cond.code yX4_isIn cX4_isIn 3 (some .boolean), Cond.methodLink RX4 69 yX3_failingInPlan, Cond.instanceMethod yX3_failingInPlan, Cond.selects RX3 yX3_failingInPlan yX3_failingInPlan, Cond.code yX3_failingInPlan cX3_failingInPlan 3 (some .int), Cond.fieldLink RX3 34 "Bumpherald$Packages" "needCount" "I", Cond.methodLink RX3 37 yX3_holdsInPlan, Cond.instanceMethod yX3_holdsInPlan, Cond.selects RX3 yX3_holdsInPlan yX3_holdsInPlan, Cond.code yX3_holdsInPlan cX3_holdsInPlan 3 (some .boolean), Cond.fieldLink RX3 21 "Bumpherald$Packages" "needOthers" "[I", Cond.fieldLink RX3 18 "Bumpherald$Packages" "needOnes" "[I", Cond.fieldLink RX3 24 "Bumpherald$Packages" "needLeasts" "[I", Cond.fieldLink RX3 27 "Bumpherald$Packages" "needMosts" "[I", Cond.methodLink RX6 229 yX4_areApproved]
def wsX6_land_r4 : List Cond := [Cond.instanceMethod yX4_areApproved, Cond.selects RX4 yX4_areApproved yX4_areApproved, Cond.code yX4_areApproved cX4_areApproved 3 (some .boolean), Cond.fieldLink RX4 30 "Bumpherald$Raises" "approved" "[Z", Cond.methodLink RX6 232 yX4_packagesOf, Cond.instanceMethod yX4_packagesOf, Cond.selects RX4 yX4_packagesOf yX4_packagesOf, Cond.code yX4_packagesOf cX4_packagesOf 4 (some .int), Cond.methodLink RX6 235 yX1_isFrozen, Cond.instanceMethod yX1_isFrozen, Cond.selects RX1 yX1_isFrozen yX1_isFrozen, Cond.initialized RX1, Cond.code yX1_isFrozen cX1_isFrozen 4 (some .boolean), Cond.fieldLink RX1 21 "Bumpherald$Freezes" "count" "I", Cond.fieldLink RX1 9 "Bumpherald$Freezes" "sets" "[I", Cond.fieldLink RX1 15 "Bumpherald$Freezes" "firstDays" "[I", Cond.fieldLink RX1 18 "Bumpherald$Freezes" "lastDays" "[I", Cond.methodLink RX6 160 yJ6_bitCount_0f7a4, Cond.static yJ6_bitCount_0f7a4, Cond.initialized RJ6, Cond.code yJ6_bitCount_0f7a4 cJ6_bitCount_0f7a4 1 (some .int), Cond.constant RJ6 265 (1431655765), Cond.constant RJ6 266 (858993459), Cond.constant RJ6 267 (252645135)]
def wsX6_land_r5 : List Cond := [Cond.methodLink RX6 165 yX4_release, Cond.instanceMethod yX4_release, Cond.selects RX4 yX4_release yX4_release, Cond.code yX4_release cX4_release 5 none, Cond.fieldLink RX4 58 "Bumpherald$Packages" "versions" "[I", Cond.methodLink RX4 61 yX4_end, Cond.instanceMethod yX4_end, Cond.selects RX4 yX4_end yX4_end, Cond.code yX4_end cX4_end 3 none, Cond.fieldLink RX4 24 "Bumpherald$Raises" "states" "[I", Cond.methodLink RX4 51 yX4_listOpen, Cond.instanceMethod yX4_listOpen, Cond.selects RX4 yX4_listOpen yX4_listOpen, Cond.code yX4_listOpen cX4_listOpen 2 none, Cond.fieldLink RX4 40 "Bumpherald$Raises" "count" "I", Cond.methodLink RX6 168 yX4_end, Cond.methodLink RX6 172 yX2_part, Cond.instanceMethod yX2_part, Cond.selects RX2 yX2_part yX2_part, Cond.initialized RX2, Cond.code yX2_part cX2_part 3 none, Cond.fieldLink RX2 19 "Bumpherald$Herding" "raises" "LBumpherald$Raises;", Cond.fieldLink RX2 66 "Bumpherald$Raises" "openCount" "I", Cond.fieldLink RX2 72 "Bumpherald$Raises" "approved" "[Z"]
def wsX6_land_r6 : List Cond := [Cond.fieldLink RX2 75 "Bumpherald$Raises" "open" "[I", Cond.fieldLink RX2 23 "Bumpherald$Herding" "reviewers" "LBumpherald$Reviewers;", Cond.methodLink RX2 69 yX4_isIn, Cond.methodLink RX2 57 yX4_group, Cond.instanceMethod yX4_group, Cond.selects RX4 yX4_group yX4_group, Cond.code yX4_group cX4_group 4 none, Cond.methodLink RX2 61 yX5_giveAnew, Cond.instanceMethod yX5_giveAnew, Cond.selects RX5 yX5_giveAnew yX5_giveAnew, Cond.initialized RX5, Cond.code yX5_giveAnew cX5_giveAnew 4 none, Cond.fieldLink RX5 15 "Bumpherald$Reviewers" "raises" "LBumpherald$Raises;", Cond.fieldLink RX5 19 "Bumpherald$Raises" "openCount" "I", Cond.fieldLink RX5 25 "Bumpherald$Raises" "open" "[I", Cond.methodLink RX5 31 yX4_isIn, Cond.methodLink RX5 35 yX5_hasOwnReviewer, Cond.instanceMethod yX5_hasOwnReviewer, Cond.selects RX5 yX5_hasOwnReviewer yX5_hasOwnReviewer, Cond.code yX5_hasOwnReviewer cX5_hasOwnReviewer 3 (some .boolean), Cond.fieldLink RX5 28 "Bumpherald$Raises" "reviewers" "[I", Cond.methodLink RX5 47 yX5_reviewsAnother, Cond.instanceMethod yX5_reviewsAnother, Cond.selects RX5 yX5_reviewsAnother yX5_reviewsAnother]
def wsX6_land_r7 : List Cond := [Cond.code yX5_reviewsAnother cX5_reviewsAnother 6 (some .boolean), Cond.fieldLink RX5 51 "Bumpherald$Raises" "groups" "[I", Cond.methodLink RX5 39 yX5_bestFor, Cond.instanceMethod yX5_bestFor, Cond.selects RX5 yX5_bestFor yX5_bestFor, Cond.code yX5_bestFor cX5_bestFor 6 (some .int), Cond.fieldLink RX5 9 "Bumpherald$Reviewers" "trusts" "[I", Cond.fieldLink RX5 58 "Bumpherald$Raises" "risks" "[I", Cond.methodLink RX5 54 yX5_loadWithout, Cond.instanceMethod yX5_loadWithout, Cond.selects RX5 yX5_loadWithout yX5_loadWithout, Cond.code yX5_loadWithout cX5_loadWithout 6 (some .int), Cond.methodLink RX5 43 yX5_give, Cond.instanceMethod yX5_give, Cond.selects RX5 yX5_give yX5_give, Cond.code yX5_give cX5_give 3 none, Cond.fieldLink RX5 61 "Bumpherald$Raises" "approved" "[Z"]
def wsX6_land : List Cond := .code yX6_land cX6_land 5 (some .int) :: ((wsX6_land_r1 ++ (wsX6_land_r2 ++ (wsX6_land_r3 ++ (wsX6_land_r4 ++ (wsX6_land_r5 ++ (wsX6_land_r6 ++ wsX6_land_r7)))))) ++ wsX60 ++ wsX40 ++ wsX30 ++ wsX10 ++ wsX20 ++ wsX50 ++ (vx_atS RX6 72 "java/lang/IllegalStateException" ["java/lang/RuntimeException", "java/lang/Exception"]).filter goodWord ++ (vx_atS RX6 220 "java/lang/IndexOutOfBoundsException" ["java/lang/RuntimeException", "java/lang/Exception"]).filter goodWord)
def wsX6_close_r1 : List Cond := [Cond.fieldLink RX6 46 "Bumpherald" "herding" "LBumpherald$Herding;", Cond.methodLink RX6 140 yX6_checkOpen, Cond.instanceMethod yX6_checkOpen, Cond.selects RX6 yX6_checkOpen yX6_checkOpen, Cond.initialized RX6, Cond.code yX6_checkOpen cX6_checkOpen 2 none, Cond.classLink RX6 68 "java/lang/IllegalStateException", Cond.initialized "java/lang/IllegalStateException", Cond.fieldLink RX6 28 "Bumpherald" "raises" "LBumpherald$Raises;", Cond.fieldLink RX6 188 "Bumpherald$Raises" "states" "[I", Cond.methodLink RX6 185 yX6_checkRaise, Cond.instanceMethod yX6_checkRaise, Cond.selects RX6 yX6_checkRaise yX6_checkRaise, Cond.code yX6_checkRaise cX6_checkRaise 2 none, Cond.classLink RX6 216 "java/lang/IndexOutOfBoundsException", Cond.initialized "java/lang/IndexOutOfBoundsException", Cond.fieldLink RX6 129 "Bumpherald$Raises" "count" "I", Cond.methodLink RX6 54 yX6_isWithin, Cond.static yX6_isWithin, Cond.code yX6_isWithin cX6_isWithin 3 (some .boolean), Cond.methodLink RX6 175 yX2_leave, Cond.instanceMethod yX2_leave, Cond.selects RX2 yX2_leave yX2_leave, Cond.initialized RX2]
def wsX6_close_r2 : List Cond := [Cond.code yX2_leave cX2_leave 3 none, Cond.fieldLink RX2 19 "Bumpherald$Herding" "raises" "LBumpherald$Raises;", Cond.fieldLink RX2 23 "Bumpherald$Herding" "reviewers" "LBumpherald$Reviewers;", Cond.methodLink RX2 78 yX2_mateOf, Cond.instanceMethod yX2_mateOf, Cond.selects RX2 yX2_mateOf yX2_mateOf, Cond.code yX2_mateOf cX2_mateOf 4 (some .int), Cond.fieldLink RX2 66 "Bumpherald$Raises" "openCount" "I", Cond.fieldLink RX2 75 "Bumpherald$Raises" "open" "[I", Cond.fieldLink RX2 32 "Bumpherald$Raises" "groups" "[I", Cond.methodLink RX2 51 yX4_groupOf, Cond.instanceMethod yX4_groupOf, Cond.selects RX4 yX4_groupOf yX4_groupOf, Cond.initialized RX4, Cond.code yX4_groupOf cX4_groupOf 4 (some .int), Cond.fieldLink RX4 44 "Bumpherald$Raises" "openCount" "I", Cond.fieldLink RX4 34 "Bumpherald$Raises" "groups" "[I", Cond.fieldLink RX4 37 "Bumpherald$Raises" "open" "[I", Cond.methodLink RX2 81 yX4_bitOf, Cond.instanceMethod yX4_bitOf, Cond.selects RX4 yX4_bitOf yX4_bitOf, Cond.code yX4_bitOf cX4_bitOf 3 (some .int), Cond.methodLink RX2 57 yX4_group, Cond.instanceMethod yX4_group]
def wsX6_close_r3 : List Cond := [Cond.selects RX4 yX4_group yX4_group, Cond.code yX4_group cX4_group 4 none, Cond.methodLink RX4 54 yX4_isIn, Cond.instanceMethod yX4_isIn, Cond.selects RX4 yX4_isIn yX4_isIn, Cond.code yX4_isIn cX4_isIn 3 (some .boolean), Cond.methodLink RX2 84 yX4_end, Cond.instanceMethod yX4_end, Cond.selects RX4 yX4_end yX4_end, Cond.code yX4_end cX4_end 3 none, Cond.fieldLink RX4 24 "Bumpherald$Raises" "states" "[I", Cond.methodLink RX4 51 yX4_listOpen, Cond.instanceMethod yX4_listOpen, Cond.selects RX4 yX4_listOpen yX4_listOpen, Cond.code yX4_listOpen cX4_listOpen 2 none, Cond.fieldLink RX4 40 "Bumpherald$Raises" "count" "I", Cond.methodLink RX2 61 yX5_giveAnew, Cond.instanceMethod yX5_giveAnew, Cond.selects RX5 yX5_giveAnew yX5_giveAnew, Cond.initialized RX5, Cond.code yX5_giveAnew cX5_giveAnew 4 none, Cond.fieldLink RX5 15 "Bumpherald$Reviewers" "raises" "LBumpherald$Raises;", Cond.fieldLink RX5 19 "Bumpherald$Raises" "openCount" "I", Cond.fieldLink RX5 25 "Bumpherald$Raises" "open" "[I"]
def wsX6_close_r4 : List Cond := [Cond.methodLink RX5 31 yX4_isIn, Cond.methodLink RX5 35 yX5_hasOwnReviewer, Cond.instanceMethod yX5_hasOwnReviewer, Cond.selects RX5 yX5_hasOwnReviewer yX5_hasOwnReviewer, Cond.code yX5_hasOwnReviewer cX5_hasOwnReviewer 3 (some .boolean), Cond.fieldLink RX5 28 "Bumpherald$Raises" "reviewers" "[I", Cond.methodLink RX5 47 yX5_reviewsAnother, Cond.instanceMethod yX5_reviewsAnother, Cond.selects RX5 yX5_reviewsAnother yX5_reviewsAnother, Cond.code yX5_reviewsAnother cX5_reviewsAnother 6 (some .boolean), Cond.fieldLink RX5 51 "Bumpherald$Raises" "groups" "[I", Cond.methodLink RX5 39 yX5_bestFor, Cond.instanceMethod yX5_bestFor, Cond.selects RX5 yX5_bestFor yX5_bestFor, Cond.code yX5_bestFor cX5_bestFor 6 (some .int), Cond.fieldLink RX5 9 "Bumpherald$Reviewers" "trusts" "[I", Cond.fieldLink RX5 58 "Bumpherald$Raises" "risks" "[I", Cond.methodLink RX5 54 yX5_loadWithout, Cond.instanceMethod yX5_loadWithout, Cond.selects RX5 yX5_loadWithout yX5_loadWithout, Cond.code yX5_loadWithout cX5_loadWithout 6 (some .int), Cond.methodLink RX5 43 yX5_give, Cond.instanceMethod yX5_give, Cond.selects RX5 yX5_give yX5_give]
def wsX6_close_r5 : List Cond := [Cond.code yX5_give cX5_give 3 none, Cond.fieldLink RX5 61 "Bumpherald$Raises" "approved" "[Z"]
def wsX6_close : List Cond := .code yX6_close cX6_close 2 none :: ((wsX6_close_r1 ++ (wsX6_close_r2 ++ (wsX6_close_r3 ++ (wsX6_close_r4 ++ wsX6_close_r5)))) ++ wsX60 ++ wsX40 ++ wsX20 ++ wsX50 ++ (vx_atS RX6 72 "java/lang/IllegalStateException" ["java/lang/RuntimeException", "java/lang/Exception"]).filter goodWord ++ (vx_atS RX6 220 "java/lang/IndexOutOfBoundsException" ["java/lang/RuntimeException", "java/lang/Exception"]).filter goodWord)
def wsX6_pass_r1 : List Cond := [Cond.classLink RX6 58 "java/lang/IllegalArgumentException", Cond.initialized "java/lang/IllegalArgumentException", Cond.classLink RX6 68 "java/lang/IllegalStateException", Cond.initialized "java/lang/IllegalStateException", Cond.fieldLink RX6 50 "Bumpherald" "today" "I", Cond.fieldLink RX6 46 "Bumpherald" "herding" "LBumpherald$Herding;", Cond.methodLink RX6 54 yX6_isWithin, Cond.static yX6_isWithin, Cond.initialized RX6, Cond.code yX6_isWithin cX6_isWithin 3 (some .boolean), Cond.methodLink RX6 182 yX2_joinSleepers, Cond.instanceMethod yX2_joinSleepers, Cond.selects RX2 yX2_joinSleepers yX2_joinSleepers, Cond.initialized RX2, Cond.code yX2_joinSleepers cX2_joinSleepers 3 none, Cond.fieldLink RX2 19 "Bumpherald$Herding" "raises" "LBumpherald$Raises;", Cond.fieldLink RX2 27 "Bumpherald$Raises" "count" "I", Cond.fieldLink RX2 9 "Bumpherald$Herding" "waiting" "[Z", Cond.fieldLink RX2 32 "Bumpherald$Raises" "groups" "[I", Cond.methodLink RX2 36 yX2_sleepsTooLong, Cond.instanceMethod yX2_sleepsTooLong, Cond.selects RX2 yX2_sleepsTooLong yX2_sleepsTooLong, Cond.code yX2_sleepsTooLong cX2_sleepsTooLong 3 (some .boolean), Cond.fieldLink RX2 48 "Bumpherald$Raises" "days" "[I"]
def wsX6_pass_r2 : List Cond := [Cond.fieldLink RX2 15 "Bumpherald$Herding" "patience" "I", Cond.methodLink RX2 51 yX4_groupOf, Cond.instanceMethod yX4_groupOf, Cond.selects RX4 yX4_groupOf yX4_groupOf, Cond.initialized RX4, Cond.code yX4_groupOf cX4_groupOf 4 (some .int), Cond.fieldLink RX4 44 "Bumpherald$Raises" "openCount" "I", Cond.fieldLink RX4 34 "Bumpherald$Raises" "groups" "[I", Cond.fieldLink RX4 37 "Bumpherald$Raises" "open" "[I", Cond.methodLink RX2 54 yX4_failing, Cond.instanceMethod yX4_failing, Cond.selects RX4 yX4_failing yX4_failing, Cond.code yX4_failing cX4_failing 2 (some .int), Cond.fieldLink RX4 47 "Bumpherald$Raises" "packages" "LBumpherald$Packages;", Cond.methodLink RX4 65 yX4_plan, Cond.instanceMethod yX4_plan, Cond.selects RX4 yX4_plan yX4_plan, Cond.code yX4_plan cX4_plan 3 none, Cond.fieldLink RX4 79 "Bumpherald$Packages" "planned" "[I", Cond.fieldLink RX4 9 "Bumpherald$Raises" "packs" "[I", Cond.fieldLink RX4 15 "Bumpherald$Raises" "versions" "[I", Cond.methodLink RX4 76 yX3_startPlan, Cond.instanceMethod yX3_startPlan, Cond.selects RX3 yX3_startPlan yX3_startPlan]
def wsX6_pass_r3 : List Cond := [Cond.initialized RX3, Cond.code yX3_startPlan cX3_startPlan 2 none, Cond.fieldLink RX3 30 "Bumpherald$Packages" "count" "I", Cond.fieldLink RX3 15 "Bumpherald$Packages" "planned" "[I", Cond.fieldLink RX3 9 "Bumpherald$Packages" "versions" "[I", Cond.methodLink RX4 54 yX4_isIn, Cond.instanceMethod yX4_isIn, Cond.selects RX4 yX4_isIn yX4_isIn, Cond.code yX4_isIn cX4_isIn 3 (some .boolean), Cond.methodLink RX4 69 yX3_failingInPlan, Cond.instanceMethod yX3_failingInPlan, Cond.selects RX3 yX3_failingInPlan yX3_failingInPlan, Cond.code yX3_failingInPlan cX3_failingInPlan 3 (some .int), Cond.fieldLink RX3 34 "Bumpherald$Packages" "needCount" "I", Cond.methodLink RX3 37 yX3_holdsInPlan, Cond.instanceMethod yX3_holdsInPlan, Cond.selects RX3 yX3_holdsInPlan yX3_holdsInPlan, Cond.code yX3_holdsInPlan cX3_holdsInPlan 3 (some .boolean), Cond.fieldLink RX3 21 "Bumpherald$Packages" "needOthers" "[I", Cond.fieldLink RX3 18 "Bumpherald$Packages" "needOnes" "[I", Cond.fieldLink RX3 24 "Bumpherald$Packages" "needLeasts" "[I", Cond.fieldLink RX3 27 "Bumpherald$Packages" "needMosts" "[I", Cond.methodLink RX2 40 yX2_bestPartner, Cond.instanceMethod yX2_bestPartner]
def wsX6_pass_r4 : List Cond := [Cond.selects RX2 yX2_bestPartner yX2_bestPartner, Cond.code yX2_bestPartner cX2_bestPartner 7 (some .int), Cond.methodLink RX2 44 yX2_join, Cond.instanceMethod yX2_join, Cond.selects RX2 yX2_join yX2_join, Cond.code yX2_join cX2_join 4 none, Cond.fieldLink RX2 23 "Bumpherald$Herding" "reviewers" "LBumpherald$Reviewers;", Cond.methodLink RX2 57 yX4_group, Cond.instanceMethod yX4_group, Cond.selects RX4 yX4_group yX4_group, Cond.code yX4_group cX4_group 4 none, Cond.methodLink RX2 61 yX5_giveAnew, Cond.instanceMethod yX5_giveAnew, Cond.selects RX5 yX5_giveAnew yX5_giveAnew, Cond.initialized RX5, Cond.code yX5_giveAnew cX5_giveAnew 4 none, Cond.fieldLink RX5 15 "Bumpherald$Reviewers" "raises" "LBumpherald$Raises;", Cond.fieldLink RX5 19 "Bumpherald$Raises" "openCount" "I", Cond.fieldLink RX5 25 "Bumpherald$Raises" "open" "[I", Cond.methodLink RX5 31 yX4_isIn, Cond.methodLink RX5 35 yX5_hasOwnReviewer, Cond.instanceMethod yX5_hasOwnReviewer, Cond.selects RX5 yX5_hasOwnReviewer yX5_hasOwnReviewer, Cond.code yX5_hasOwnReviewer cX5_hasOwnReviewer 3 (some .boolean)]
def wsX6_pass_r5 : List Cond := [Cond.fieldLink RX5 28 "Bumpherald$Raises" "reviewers" "[I", Cond.methodLink RX5 47 yX5_reviewsAnother, Cond.instanceMethod yX5_reviewsAnother, Cond.selects RX5 yX5_reviewsAnother yX5_reviewsAnother, Cond.code yX5_reviewsAnother cX5_reviewsAnother 6 (some .boolean), Cond.fieldLink RX5 51 "Bumpherald$Raises" "groups" "[I", Cond.methodLink RX5 39 yX5_bestFor, Cond.instanceMethod yX5_bestFor, Cond.selects RX5 yX5_bestFor yX5_bestFor, Cond.code yX5_bestFor cX5_bestFor 6 (some .int), Cond.fieldLink RX5 9 "Bumpherald$Reviewers" "trusts" "[I", Cond.fieldLink RX5 58 "Bumpherald$Raises" "risks" "[I", Cond.methodLink RX5 54 yX5_loadWithout, Cond.instanceMethod yX5_loadWithout, Cond.selects RX5 yX5_loadWithout yX5_loadWithout, Cond.code yX5_loadWithout cX5_loadWithout 6 (some .int), Cond.methodLink RX5 43 yX5_give, Cond.instanceMethod yX5_give, Cond.selects RX5 yX5_give yX5_give, Cond.code yX5_give cX5_give 3 none, Cond.fieldLink RX5 61 "Bumpherald$Raises" "approved" "[Z"]
def wsX6_pass : List Cond := .code yX6_pass cX6_pass 3 (some .int) :: ((wsX6_pass_r1 ++ (wsX6_pass_r2 ++ (wsX6_pass_r3 ++ (wsX6_pass_r4 ++ wsX6_pass_r5)))) ++ wsX60 ++ wsX20 ++ wsX40 ++ wsX30 ++ wsX50 ++ (vx_atS RX6 62 "java/lang/IllegalArgumentException" ["java/lang/RuntimeException", "java/lang/Exception"]).filter goodWord ++ (vx_atS RX6 72 "java/lang/IllegalStateException" ["java/lang/RuntimeException", "java/lang/Exception"]).filter goodWord)
def wsX6_day : List Cond := .code yX6_day cX6_day 1 (some .int) :: ([.fieldLink RX6 50 "Bumpherald" "today" "I"] ++ wsX60)
def wsX6_version : List Cond := .code yX6_version cX6_version 2 (some .int) :: ([.fieldLink RX6 10 "Bumpherald" "packages" "LBumpherald$Packages;", .fieldLink RX6 83 "Bumpherald$Packages" "versions" "[I", .methodLink RX6 77 yX6_checkPackage, .instanceMethod yX6_checkPackage, .selects RX6 yX6_checkPackage yX6_checkPackage, .initialized RX6, .code yX6_checkPackage cX6_checkPackage 2 none, .classLink RX6 216 "java/lang/IndexOutOfBoundsException", .initialized "java/lang/IndexOutOfBoundsException", .fieldLink RX6 65 "Bumpherald$Packages" "count" "I", .methodLink RX6 54 yX6_isWithin, .static yX6_isWithin, .code yX6_isWithin cX6_isWithin 3 (some .boolean)] ++ wsX60 ++ wsX30 ++ (vx_atS RX6 220 "java/lang/IndexOutOfBoundsException" ["java/lang/RuntimeException", "java/lang/Exception"]).filter goodWord)
def wsX6_raiseOf_r1 : List Cond := [Cond.classLink RX6 58 "java/lang/IllegalArgumentException", Cond.initialized "java/lang/IllegalArgumentException", Cond.fieldLink RX6 28 "Bumpherald" "raises" "LBumpherald$Raises;", Cond.fieldLink RX6 188 "Bumpherald$Raises" "states" "[I", Cond.fieldLink RX6 191 "Bumpherald$Raises" "packs" "[I", Cond.fieldLink RX6 194 "Bumpherald$Raises" "versions" "[I", Cond.fieldLink RX6 143 "Bumpherald$Raises" "reviewers" "[I", Cond.fieldLink RX6 147 "Bumpherald$Raises" "approved" "[Z", Cond.fieldLink RX6 195 "Bumpherald$Raises" "groups" "[I", Cond.methodLink RX6 185 yX6_checkRaise, Cond.instanceMethod yX6_checkRaise, Cond.selects RX6 yX6_checkRaise yX6_checkRaise, Cond.initialized RX6, Cond.code yX6_checkRaise cX6_checkRaise 2 none, Cond.classLink RX6 216 "java/lang/IndexOutOfBoundsException", Cond.initialized "java/lang/IndexOutOfBoundsException", Cond.fieldLink RX6 129 "Bumpherald$Raises" "count" "I", Cond.methodLink RX6 54 yX6_isWithin, Cond.static yX6_isWithin, Cond.code yX6_isWithin cX6_isWithin 3 (some .boolean), Cond.methodLink RX6 151 yX4_groupOf, Cond.instanceMethod yX4_groupOf, Cond.selects RX4 yX4_groupOf yX4_groupOf, Cond.initialized RX4]
def wsX6_raiseOf_r2 : List Cond := [Cond.code yX4_groupOf cX4_groupOf 4 (some .int), Cond.fieldLink RX4 44 "Bumpherald$Raises" "openCount" "I", Cond.fieldLink RX4 34 "Bumpherald$Raises" "groups" "[I", Cond.fieldLink RX4 37 "Bumpherald$Raises" "open" "[I", Cond.methodLink RX6 160 yJ6_bitCount_0f7a4, Cond.static yJ6_bitCount_0f7a4, Cond.initialized RJ6, Cond.code yJ6_bitCount_0f7a4 cJ6_bitCount_0f7a4 1 (some .int), Cond.constant RJ6 265 (1431655765), Cond.constant RJ6 266 (858993459), Cond.constant RJ6 267 (252645135)]
def wsX6_raiseOf : List Cond := .code yX6_raiseOf cX6_raiseOf 3 (some .int) :: ((wsX6_raiseOf_r1 ++ wsX6_raiseOf_r2) ++ wsX60 ++ wsX40 ++ (vx_atS RX6 62 "java/lang/IllegalArgumentException" ["java/lang/RuntimeException", "java/lang/Exception"]).filter goodWord ++ (vx_atS RX6 220 "java/lang/IndexOutOfBoundsException" ["java/lang/RuntimeException", "java/lang/Exception"]).filter goodWord)
def wsX6_fails_r1 : List Cond := [Cond.fieldLink RX6 28 "Bumpherald" "raises" "LBumpherald$Raises;", Cond.methodLink RX6 140 yX6_checkOpen, Cond.instanceMethod yX6_checkOpen, Cond.selects RX6 yX6_checkOpen yX6_checkOpen, Cond.initialized RX6, Cond.code yX6_checkOpen cX6_checkOpen 2 none, Cond.classLink RX6 68 "java/lang/IllegalStateException", Cond.initialized "java/lang/IllegalStateException", Cond.fieldLink RX6 188 "Bumpherald$Raises" "states" "[I", Cond.methodLink RX6 185 yX6_checkRaise, Cond.instanceMethod yX6_checkRaise, Cond.selects RX6 yX6_checkRaise yX6_checkRaise, Cond.code yX6_checkRaise cX6_checkRaise 2 none, Cond.classLink RX6 216 "java/lang/IndexOutOfBoundsException", Cond.initialized "java/lang/IndexOutOfBoundsException", Cond.fieldLink RX6 129 "Bumpherald$Raises" "count" "I", Cond.methodLink RX6 54 yX6_isWithin, Cond.static yX6_isWithin, Cond.code yX6_isWithin cX6_isWithin 3 (some .boolean), Cond.methodLink RX6 151 yX4_groupOf, Cond.instanceMethod yX4_groupOf, Cond.selects RX4 yX4_groupOf yX4_groupOf, Cond.initialized RX4, Cond.code yX4_groupOf cX4_groupOf 4 (some .int)]
def wsX6_fails_r2 : List Cond := [Cond.fieldLink RX4 44 "Bumpherald$Raises" "openCount" "I", Cond.fieldLink RX4 34 "Bumpherald$Raises" "groups" "[I", Cond.fieldLink RX4 37 "Bumpherald$Raises" "open" "[I", Cond.methodLink RX6 200 yX4_failing, Cond.instanceMethod yX4_failing, Cond.selects RX4 yX4_failing yX4_failing, Cond.code yX4_failing cX4_failing 2 (some .int), Cond.fieldLink RX4 47 "Bumpherald$Raises" "packages" "LBumpherald$Packages;", Cond.methodLink RX4 65 yX4_plan, Cond.instanceMethod yX4_plan, Cond.selects RX4 yX4_plan yX4_plan, Cond.code yX4_plan cX4_plan 3 none, Cond.fieldLink RX4 79 "Bumpherald$Packages" "planned" "[I", Cond.fieldLink RX4 9 "Bumpherald$Raises" "packs" "[I", Cond.fieldLink RX4 15 "Bumpherald$Raises" "versions" "[I", Cond.methodLink RX4 76 yX3_startPlan, Cond.instanceMethod yX3_startPlan, Cond.selects RX3 yX3_startPlan yX3_startPlan, Cond.initialized RX3, Cond.code yX3_startPlan cX3_startPlan 2 none, Cond.fieldLink RX3 30 "Bumpherald$Packages" "count" "I", Cond.fieldLink RX3 15 "Bumpherald$Packages" "planned" "[I", Cond.fieldLink RX3 9 "Bumpherald$Packages" "versions" "[I", Cond.methodLink RX4 54 yX4_isIn]
def wsX6_fails_r3 : List Cond := [Cond.instanceMethod yX4_isIn, Cond.selects RX4 yX4_isIn yX4_isIn, Cond.code yX4_isIn cX4_isIn 3 (some .boolean), Cond.methodLink RX4 69 yX3_failingInPlan, Cond.instanceMethod yX3_failingInPlan, Cond.selects RX3 yX3_failingInPlan yX3_failingInPlan, Cond.code yX3_failingInPlan cX3_failingInPlan 3 (some .int), Cond.fieldLink RX3 34 "Bumpherald$Packages" "needCount" "I", Cond.methodLink RX3 37 yX3_holdsInPlan, Cond.instanceMethod yX3_holdsInPlan, Cond.selects RX3 yX3_holdsInPlan yX3_holdsInPlan, Cond.code yX3_holdsInPlan cX3_holdsInPlan 3 (some .boolean), Cond.fieldLink RX3 21 "Bumpherald$Packages" "needOthers" "[I", Cond.fieldLink RX3 18 "Bumpherald$Packages" "needOnes" "[I", Cond.fieldLink RX3 24 "Bumpherald$Packages" "needLeasts" "[I", Cond.fieldLink RX3 27 "Bumpherald$Packages" "needMosts" "[I"]
def wsX6_fails : List Cond := .code yX6_fails cX6_fails 2 (some .int) :: ((wsX6_fails_r1 ++ (wsX6_fails_r2 ++ wsX6_fails_r3)) ++ wsX60 ++ wsX40 ++ wsX30 ++ (vx_atS RX6 72 "java/lang/IllegalStateException" ["java/lang/RuntimeException", "java/lang/Exception"]).filter goodWord ++ (vx_atS RX6 220 "java/lang/IndexOutOfBoundsException" ["java/lang/RuntimeException", "java/lang/Exception"]).filter goodWord)
def wsX6_canLand_r1 : List Cond := [Cond.fieldLink RX6 28 "Bumpherald" "raises" "LBumpherald$Raises;", Cond.methodLink RX6 140 yX6_checkOpen, Cond.instanceMethod yX6_checkOpen, Cond.selects RX6 yX6_checkOpen yX6_checkOpen, Cond.initialized RX6, Cond.code yX6_checkOpen cX6_checkOpen 2 none, Cond.classLink RX6 68 "java/lang/IllegalStateException", Cond.initialized "java/lang/IllegalStateException", Cond.fieldLink RX6 188 "Bumpherald$Raises" "states" "[I", Cond.methodLink RX6 185 yX6_checkRaise, Cond.instanceMethod yX6_checkRaise, Cond.selects RX6 yX6_checkRaise yX6_checkRaise, Cond.code yX6_checkRaise cX6_checkRaise 2 none, Cond.classLink RX6 216 "java/lang/IndexOutOfBoundsException", Cond.initialized "java/lang/IndexOutOfBoundsException", Cond.fieldLink RX6 129 "Bumpherald$Raises" "count" "I", Cond.methodLink RX6 54 yX6_isWithin, Cond.static yX6_isWithin, Cond.code yX6_isWithin cX6_isWithin 3 (some .boolean), Cond.methodLink RX6 151 yX4_groupOf, Cond.instanceMethod yX4_groupOf, Cond.selects RX4 yX4_groupOf yX4_groupOf, Cond.initialized RX4, Cond.code yX4_groupOf cX4_groupOf 4 (some .int)]
def wsX6_canLand_r2 : List Cond := [Cond.fieldLink RX4 44 "Bumpherald$Raises" "openCount" "I", Cond.fieldLink RX4 34 "Bumpherald$Raises" "groups" "[I", Cond.fieldLink RX4 37 "Bumpherald$Raises" "open" "[I", Cond.methodLink RX6 154 yX6_isLandable, Cond.instanceMethod yX6_isLandable, Cond.selects RX6 yX6_isLandable yX6_isLandable, Cond.code yX6_isLandable cX6_isLandable 2 (some .boolean), Cond.fieldLink RX6 19 "Bumpherald" "freezes" "LBumpherald$Freezes;", Cond.fieldLink RX6 50 "Bumpherald" "today" "I", Cond.methodLink RX6 200 yX4_failing, Cond.instanceMethod yX4_failing, Cond.selects RX4 yX4_failing yX4_failing, Cond.code yX4_failing cX4_failing 2 (some .int), Cond.fieldLink RX4 47 "Bumpherald$Raises" "packages" "LBumpherald$Packages;", Cond.methodLink RX4 65 yX4_plan, Cond.instanceMethod yX4_plan, Cond.selects RX4 yX4_plan yX4_plan, Cond.code yX4_plan cX4_plan 3 none, Cond.fieldLink RX4 79 "Bumpherald$Packages" "planned" "[I", Cond.fieldLink RX4 9 "Bumpherald$Raises" "packs" "[I", Cond.fieldLink RX4 15 "Bumpherald$Raises" "versions" "[I", Cond.methodLink RX4 76 yX3_startPlan, Cond.instanceMethod yX3_startPlan, Cond.selects RX3 yX3_startPlan yX3_startPlan]
def wsX6_canLand_r3 : List Cond := [Cond.initialized RX3, Cond.code yX3_startPlan cX3_startPlan 2 none, Cond.fieldLink RX3 30 "Bumpherald$Packages" "count" "I", Cond.fieldLink RX3 15 "Bumpherald$Packages" "planned" "[I", Cond.fieldLink RX3 9 "Bumpherald$Packages" "versions" "[I", Cond.methodLink RX4 54 yX4_isIn, Cond.instanceMethod yX4_isIn, Cond.selects RX4 yX4_isIn yX4_isIn, Cond.code yX4_isIn cX4_isIn 3 (some .boolean), Cond.methodLink RX4 69 yX3_failingInPlan, Cond.instanceMethod yX3_failingInPlan, Cond.selects RX3 yX3_failingInPlan yX3_failingInPlan, Cond.code yX3_failingInPlan cX3_failingInPlan 3 (some .int), Cond.fieldLink RX3 34 "Bumpherald$Packages" "needCount" "I", Cond.methodLink RX3 37 yX3_holdsInPlan, Cond.instanceMethod yX3_holdsInPlan, Cond.selects RX3 yX3_holdsInPlan yX3_holdsInPlan, Cond.code yX3_holdsInPlan cX3_holdsInPlan 3 (some .boolean), Cond.fieldLink RX3 21 "Bumpherald$Packages" "needOthers" "[I", Cond.fieldLink RX3 18 "Bumpherald$Packages" "needOnes" "[I", Cond.fieldLink RX3 24 "Bumpherald$Packages" "needLeasts" "[I", Cond.fieldLink RX3 27 "Bumpherald$Packages" "needMosts" "[I", Cond.methodLink RX6 229 yX4_areApproved, Cond.instanceMethod yX4_areApproved]
def wsX6_canLand_r4 : List Cond := [Cond.selects RX4 yX4_areApproved yX4_areApproved, Cond.code yX4_areApproved cX4_areApproved 3 (some .boolean), Cond.fieldLink RX4 30 "Bumpherald$Raises" "approved" "[Z", Cond.methodLink RX6 232 yX4_packagesOf, Cond.instanceMethod yX4_packagesOf, Cond.selects RX4 yX4_packagesOf yX4_packagesOf, Cond.code yX4_packagesOf cX4_packagesOf 4 (some .int), Cond.methodLink RX6 235 yX1_isFrozen, Cond.instanceMethod yX1_isFrozen, Cond.selects RX1 yX1_isFrozen yX1_isFrozen, Cond.initialized RX1, Cond.code yX1_isFrozen cX1_isFrozen 4 (some .boolean), Cond.fieldLink RX1 21 "Bumpherald$Freezes" "count" "I", Cond.fieldLink RX1 9 "Bumpherald$Freezes" "sets" "[I", Cond.fieldLink RX1 15 "Bumpherald$Freezes" "firstDays" "[I", Cond.fieldLink RX1 18 "Bumpherald$Freezes" "lastDays" "[I"]
def wsX6_canLand : List Cond := .code yX6_canLand cX6_canLand 2 (some .boolean) :: ((wsX6_canLand_r1 ++ (wsX6_canLand_r2 ++ (wsX6_canLand_r3 ++ wsX6_canLand_r4))) ++ wsX60 ++ wsX40 ++ wsX30 ++ wsX10 ++ (vx_atS RX6 72 "java/lang/IllegalStateException" ["java/lang/RuntimeException", "java/lang/Exception"]).filter goodWord ++ (vx_atS RX6 220 "java/lang/IndexOutOfBoundsException" ["java/lang/RuntimeException", "java/lang/Exception"]).filter goodWord)
def wsX6_load : List Cond := .code yX6_load cX6_load 2 (some .int) :: ([.fieldLink RX6 37 "Bumpherald" "reviewers" "LBumpherald$Reviewers;", .methodLink RX6 98 yX6_checkReviewer, .instanceMethod yX6_checkReviewer, .selects RX6 yX6_checkReviewer yX6_checkReviewer, .initialized RX6, .code yX6_checkReviewer cX6_checkReviewer 2 none, .classLink RX6 216 "java/lang/IndexOutOfBoundsException", .initialized "java/lang/IndexOutOfBoundsException", .methodLink RX6 54 yX6_isWithin, .static yX6_isWithin, .code yX6_isWithin cX6_isWithin 3 (some .boolean), .methodLink RX6 203 yX5_loadWithout, .instanceMethod yX5_loadWithout, .selects RX5 yX5_loadWithout yX5_loadWithout, .initialized RX5, .code yX5_loadWithout cX5_loadWithout 6 (some .int), .fieldLink RX5 15 "Bumpherald$Reviewers" "raises" "LBumpherald$Raises;", .fieldLink RX5 19 "Bumpherald$Raises" "openCount" "I", .fieldLink RX5 25 "Bumpherald$Raises" "open" "[I", .fieldLink RX5 28 "Bumpherald$Raises" "reviewers" "[I"] ++ wsX60 ++ wsX50 ++ wsX40 ++ (vx_atS RX6 220 "java/lang/IndexOutOfBoundsException" ["java/lang/RuntimeException", "java/lang/Exception"]).filter goodWord)
def wsX6_fewest_r1 : List Cond := [Cond.fieldLink RX6 28 "Bumpherald" "raises" "LBumpherald$Raises;", Cond.methodLink RX6 140 yX6_checkOpen, Cond.instanceMethod yX6_checkOpen, Cond.selects RX6 yX6_checkOpen yX6_checkOpen, Cond.initialized RX6, Cond.code yX6_checkOpen cX6_checkOpen 2 none, Cond.classLink RX6 68 "java/lang/IllegalStateException", Cond.initialized "java/lang/IllegalStateException", Cond.fieldLink RX6 188 "Bumpherald$Raises" "states" "[I", Cond.methodLink RX6 185 yX6_checkRaise, Cond.instanceMethod yX6_checkRaise, Cond.selects RX6 yX6_checkRaise yX6_checkRaise, Cond.code yX6_checkRaise cX6_checkRaise 2 none, Cond.classLink RX6 216 "java/lang/IndexOutOfBoundsException", Cond.initialized "java/lang/IndexOutOfBoundsException", Cond.fieldLink RX6 129 "Bumpherald$Raises" "count" "I", Cond.methodLink RX6 54 yX6_isWithin, Cond.static yX6_isWithin, Cond.code yX6_isWithin cX6_isWithin 3 (some .boolean), Cond.methodLink RX6 134 yX4_bitOf, Cond.instanceMethod yX4_bitOf, Cond.selects RX4 yX4_bitOf yX4_bitOf, Cond.initialized RX4, Cond.code yX4_bitOf cX4_bitOf 3 (some .int)]
def wsX6_fewest_r2 : List Cond := [Cond.fieldLink RX4 44 "Bumpherald$Raises" "openCount" "I", Cond.fieldLink RX4 37 "Bumpherald$Raises" "open" "[I", Cond.methodLink RX6 207 yX0_byNeeds, Cond.static yX0_byNeeds, Cond.initialized RX0, Cond.code yX0_byNeeds cX0_byNeeds 6 (some .int), Cond.fieldLink RX0 15 "Bumpherald$Raises" "packages" "LBumpherald$Packages;", Cond.fieldLink RX0 19 "Bumpherald$Packages" "needOnes" "[I", Cond.fieldLink RX0 28 "Bumpherald$Packages" "needOthers" "[I", Cond.methodLink RX0 9 yX4_firstFailing, Cond.instanceMethod yX4_firstFailing, Cond.selects RX4 yX4_firstFailing yX4_firstFailing, Cond.code yX4_firstFailing cX4_firstFailing 2 (some .int), Cond.fieldLink RX4 47 "Bumpherald$Raises" "packages" "LBumpherald$Packages;", Cond.methodLink RX4 65 yX4_plan, Cond.instanceMethod yX4_plan, Cond.selects RX4 yX4_plan yX4_plan, Cond.code yX4_plan cX4_plan 3 none, Cond.fieldLink RX4 79 "Bumpherald$Packages" "planned" "[I", Cond.fieldLink RX4 9 "Bumpherald$Raises" "packs" "[I", Cond.fieldLink RX4 15 "Bumpherald$Raises" "versions" "[I", Cond.methodLink RX4 76 yX3_startPlan, Cond.instanceMethod yX3_startPlan, Cond.selects RX3 yX3_startPlan yX3_startPlan]
def wsX6_fewest_r3 : List Cond := [Cond.initialized RX3, Cond.code yX3_startPlan cX3_startPlan 2 none, Cond.fieldLink RX3 30 "Bumpherald$Packages" "count" "I", Cond.fieldLink RX3 15 "Bumpherald$Packages" "planned" "[I", Cond.fieldLink RX3 9 "Bumpherald$Packages" "versions" "[I", Cond.methodLink RX4 54 yX4_isIn, Cond.instanceMethod yX4_isIn, Cond.selects RX4 yX4_isIn yX4_isIn, Cond.code yX4_isIn cX4_isIn 3 (some .boolean), Cond.methodLink RX4 73 yX3_firstFailingInPlan, Cond.instanceMethod yX3_firstFailingInPlan, Cond.selects RX3 yX3_firstFailingInPlan yX3_firstFailingInPlan, Cond.code yX3_firstFailingInPlan cX3_firstFailingInPlan 2 (some .int), Cond.fieldLink RX3 34 "Bumpherald$Packages" "needCount" "I", Cond.methodLink RX3 37 yX3_holdsInPlan, Cond.instanceMethod yX3_holdsInPlan, Cond.selects RX3 yX3_holdsInPlan yX3_holdsInPlan, Cond.code yX3_holdsInPlan cX3_holdsInPlan 3 (some .boolean), Cond.fieldLink RX3 21 "Bumpherald$Packages" "needOthers" "[I", Cond.fieldLink RX3 18 "Bumpherald$Packages" "needOnes" "[I", Cond.fieldLink RX3 24 "Bumpherald$Packages" "needLeasts" "[I", Cond.fieldLink RX3 27 "Bumpherald$Packages" "needMosts" "[I", Cond.methodLink RX0 25 yX4_bitOfPackage, Cond.instanceMethod yX4_bitOfPackage]
def wsX6_fewest_r4 : List Cond := [Cond.selects RX4 yX4_bitOfPackage yX4_bitOfPackage, Cond.code yX4_bitOfPackage cX4_bitOfPackage 3 (some .int)]
def wsX6_fewest : List Cond := .code yX6_fewest cX6_fewest 2 (some .int) :: ((wsX6_fewest_r1 ++ (wsX6_fewest_r2 ++ (wsX6_fewest_r3 ++ wsX6_fewest_r4))) ++ wsX60 ++ wsX40 ++ wsX30 ++ (vx_atS RX6 72 "java/lang/IllegalStateException" ["java/lang/RuntimeException", "java/lang/Exception"]).filter goodWord ++ (vx_atS RX6 220 "java/lang/IndexOutOfBoundsException" ["java/lang/RuntimeException", "java/lang/Exception"]).filter goodWord)
def wsX6_fewestAnew_r1 : List Cond := [Cond.fieldLink RX6 28 "Bumpherald" "raises" "LBumpherald$Raises;", Cond.methodLink RX6 140 yX6_checkOpen, Cond.instanceMethod yX6_checkOpen, Cond.selects RX6 yX6_checkOpen yX6_checkOpen, Cond.initialized RX6, Cond.code yX6_checkOpen cX6_checkOpen 2 none, Cond.classLink RX6 68 "java/lang/IllegalStateException", Cond.initialized "java/lang/IllegalStateException", Cond.fieldLink RX6 188 "Bumpherald$Raises" "states" "[I", Cond.methodLink RX6 185 yX6_checkRaise, Cond.instanceMethod yX6_checkRaise, Cond.selects RX6 yX6_checkRaise yX6_checkRaise, Cond.code yX6_checkRaise cX6_checkRaise 2 none, Cond.classLink RX6 216 "java/lang/IndexOutOfBoundsException", Cond.initialized "java/lang/IndexOutOfBoundsException", Cond.fieldLink RX6 129 "Bumpherald$Raises" "count" "I", Cond.methodLink RX6 54 yX6_isWithin, Cond.static yX6_isWithin, Cond.code yX6_isWithin cX6_isWithin 3 (some .boolean), Cond.methodLink RX6 134 yX4_bitOf, Cond.instanceMethod yX4_bitOf, Cond.selects RX4 yX4_bitOf yX4_bitOf, Cond.initialized RX4, Cond.code yX4_bitOf cX4_bitOf 3 (some .int)]
def wsX6_fewestAnew_r2 : List Cond := [Cond.fieldLink RX4 44 "Bumpherald$Raises" "openCount" "I", Cond.fieldLink RX4 37 "Bumpherald$Raises" "open" "[I", Cond.methodLink RX6 213 yX0_byAllSets, Cond.static yX0_byAllSets, Cond.initialized RX0, Cond.code yX0_byAllSets cX0_byAllSets 5 (some .int), Cond.fieldLink RX0 31 "Bumpherald$Raises" "openCount" "I", Cond.methodLink RX0 35 yJ6_bitCount_0f7a4, Cond.static yJ6_bitCount_0f7a4, Cond.initialized RJ6, Cond.code yJ6_bitCount_0f7a4 cJ6_bitCount_0f7a4 1 (some .int), Cond.constant RJ6 265 (1431655765), Cond.constant RJ6 266 (858993459), Cond.constant RJ6 267 (252645135), Cond.methodLink RX0 40 yX4_failing, Cond.instanceMethod yX4_failing, Cond.selects RX4 yX4_failing yX4_failing, Cond.code yX4_failing cX4_failing 2 (some .int), Cond.fieldLink RX4 47 "Bumpherald$Raises" "packages" "LBumpherald$Packages;", Cond.methodLink RX4 65 yX4_plan, Cond.instanceMethod yX4_plan, Cond.selects RX4 yX4_plan yX4_plan, Cond.code yX4_plan cX4_plan 3 none, Cond.fieldLink RX4 79 "Bumpherald$Packages" "planned" "[I"]
def wsX6_fewestAnew_r3 : List Cond := [Cond.fieldLink RX4 9 "Bumpherald$Raises" "packs" "[I", Cond.fieldLink RX4 15 "Bumpherald$Raises" "versions" "[I", Cond.methodLink RX4 76 yX3_startPlan, Cond.instanceMethod yX3_startPlan, Cond.selects RX3 yX3_startPlan yX3_startPlan, Cond.initialized RX3, Cond.code yX3_startPlan cX3_startPlan 2 none, Cond.fieldLink RX3 30 "Bumpherald$Packages" "count" "I", Cond.fieldLink RX3 15 "Bumpherald$Packages" "planned" "[I", Cond.fieldLink RX3 9 "Bumpherald$Packages" "versions" "[I", Cond.methodLink RX4 54 yX4_isIn, Cond.instanceMethod yX4_isIn, Cond.selects RX4 yX4_isIn yX4_isIn, Cond.code yX4_isIn cX4_isIn 3 (some .boolean), Cond.methodLink RX4 69 yX3_failingInPlan, Cond.instanceMethod yX3_failingInPlan, Cond.selects RX3 yX3_failingInPlan yX3_failingInPlan, Cond.code yX3_failingInPlan cX3_failingInPlan 3 (some .int), Cond.fieldLink RX3 34 "Bumpherald$Packages" "needCount" "I", Cond.methodLink RX3 37 yX3_holdsInPlan, Cond.instanceMethod yX3_holdsInPlan, Cond.selects RX3 yX3_holdsInPlan yX3_holdsInPlan, Cond.code yX3_holdsInPlan cX3_holdsInPlan 3 (some .boolean), Cond.fieldLink RX3 21 "Bumpherald$Packages" "needOthers" "[I"]
def wsX6_fewestAnew_r4 : List Cond := [Cond.fieldLink RX3 18 "Bumpherald$Packages" "needOnes" "[I", Cond.fieldLink RX3 24 "Bumpherald$Packages" "needLeasts" "[I", Cond.fieldLink RX3 27 "Bumpherald$Packages" "needMosts" "[I"]
def wsX6_fewestAnew : List Cond := .code yX6_fewestAnew cX6_fewestAnew 2 (some .int) :: ((wsX6_fewestAnew_r1 ++ (wsX6_fewestAnew_r2 ++ (wsX6_fewestAnew_r3 ++ wsX6_fewestAnew_r4))) ++ wsX60 ++ wsX40 ++ wsX30 ++ (vx_atS RX6 72 "java/lang/IllegalStateException" ["java/lang/RuntimeException", "java/lang/Exception"]).filter goodWord ++ (vx_atS RX6 220 "java/lang/IndexOutOfBoundsException" ["java/lang/RuntimeException", "java/lang/Exception"]).filter goodWord)
def wsX6_told_r1 : List Cond := [Cond.classLink RX6 216 "java/lang/IndexOutOfBoundsException", Cond.initialized "java/lang/IndexOutOfBoundsException", Cond.fieldLink RX6 28 "Bumpherald" "raises" "LBumpherald$Raises;", Cond.fieldLink RX6 191 "Bumpherald$Raises" "packs" "[I", Cond.fieldLink RX6 194 "Bumpherald$Raises" "versions" "[I", Cond.methodLink RX6 140 yX6_checkOpen, Cond.instanceMethod yX6_checkOpen, Cond.selects RX6 yX6_checkOpen yX6_checkOpen, Cond.initialized RX6, Cond.code yX6_checkOpen cX6_checkOpen 2 none, Cond.classLink RX6 68 "java/lang/IllegalStateException", Cond.initialized "java/lang/IllegalStateException", Cond.fieldLink RX6 188 "Bumpherald$Raises" "states" "[I", Cond.methodLink RX6 185 yX6_checkRaise, Cond.instanceMethod yX6_checkRaise, Cond.selects RX6 yX6_checkRaise yX6_checkRaise, Cond.code yX6_checkRaise cX6_checkRaise 2 none, Cond.fieldLink RX6 129 "Bumpherald$Raises" "count" "I", Cond.methodLink RX6 54 yX6_isWithin, Cond.static yX6_isWithin, Cond.code yX6_isWithin cX6_isWithin 3 (some .boolean), Cond.methodLink RX6 151 yX4_groupOf, Cond.instanceMethod yX4_groupOf, Cond.selects RX4 yX4_groupOf yX4_groupOf]
def wsX6_told_r2 : List Cond := [Cond.initialized RX4, Cond.code yX4_groupOf cX4_groupOf 4 (some .int), Cond.fieldLink RX4 44 "Bumpherald$Raises" "openCount" "I", Cond.fieldLink RX4 34 "Bumpherald$Raises" "groups" "[I", Cond.fieldLink RX4 37 "Bumpherald$Raises" "open" "[I", Cond.methodLink RX6 160 yJ6_bitCount_0f7a4, Cond.static yJ6_bitCount_0f7a4, Cond.initialized RJ6, Cond.code yJ6_bitCount_0f7a4 cJ6_bitCount_0f7a4 1 (some .int), Cond.constant RJ6 265 (1431655765), Cond.constant RJ6 266 (858993459), Cond.constant RJ6 267 (252645135)]
def wsX6_told : List Cond := .code yX6_told cX6_told 4 (some .char) :: ((wsX6_told_r1 ++ wsX6_told_r2) ++ wsX60 ++ wsX40 ++ (vx_atS RX6 220 "java/lang/IndexOutOfBoundsException" ["java/lang/RuntimeException", "java/lang/Exception"]).filter goodWord ++ (vx_atS RX6 72 "java/lang/IllegalStateException" ["java/lang/RuntimeException", "java/lang/Exception"]).filter goodWord)
def wsX7_init : List Cond := .code yX7_init cX7_init 2 none :: ([.methodLink RX7 1 objectInit, .instanceMethod objectInit, .code objectInit ⟨#[0xb1]⟩ 1 none, .arrayClass .int, .fieldLink RX7 7 "BumpheraldModel" "version" "[I", .fieldLink RX7 13 "BumpheraldModel" "needing" "[I", .fieldLink RX7 16 "BumpheraldModel" "needed" "[I", .fieldLink RX7 19 "BumpheraldModel" "least" "[I", .fieldLink RX7 22 "BumpheraldModel" "most" "[I", .fieldLink RX7 25 "BumpheraldModel" "trusts" "[I", .fieldLink RX7 28 "BumpheraldModel" "patience" "I", .fieldLink RX7 32 "BumpheraldModel" "frozen" "[I", .fieldLink RX7 35 "BumpheraldModel" "from" "[I", .fieldLink RX7 38 "BumpheraldModel" "to" "[I", .fieldLink RX7 41 "BumpheraldModel" "state" "[I", .fieldLink RX7 44 "BumpheraldModel" "pack" "[I", .fieldLink RX7 47 "BumpheraldModel" "target" "[I", .fieldLink RX7 50 "BumpheraldModel" "risk" "[I", .fieldLink RX7 53 "BumpheraldModel" "made" "[I", .fieldLink RX7 56 "BumpheraldModel" "group" "[I", .fieldLink RX7 59 "BumpheraldModel" "reviewer" "[I", .arrayClass .boolean, .fieldLink RX7 62 "BumpheraldModel" "isApproved" "[Z", .fieldLink RX7 66 "BumpheraldModel" "would" "[I"] ++ wsX70)
def wsX7_thrown : List Cond := .code yX7_thrown cX7_thrown 1 (some .int) :: ([.fieldLink RX7 69 "BumpheraldModel" "thrown" "I"] ++ wsX70)
def wsX7_in : List Cond := .code yX7_in cX7_in 3 (some .boolean) :: ([])
def wsX7_refused : List Cond := .code yX7_refused cX7_refused 2 (some .boolean) :: ([.fieldLink RX7 69 "BumpheraldModel" "thrown" "I"] ++ wsX70)
def wsX7_isPack : List Cond := .code yX7_isPack cX7_isPack 2 (some .boolean) :: ([.fieldLink RX7 72 "BumpheraldModel" "packs" "I", .methodLink RX7 75 yX7_in, .static yX7_in, .initialized RX7, .code yX7_in cX7_in 3 (some .boolean)] ++ wsX70)
def wsX7_isRaise : List Cond := .code yX7_isRaise cX7_isRaise 2 (some .boolean) :: ([.fieldLink RX7 79 "BumpheraldModel" "raises" "I", .methodLink RX7 75 yX7_in, .static yX7_in, .initialized RX7, .code yX7_in cX7_in 3 (some .boolean)] ++ wsX70)
def wsX7_isReviewer : List Cond := .code yX7_isReviewer cX7_isReviewer 1 (some .boolean) :: ([.methodLink RX7 75 yX7_in, .static yX7_in, .initialized RX7, .code yX7_in cX7_in 3 (some .boolean)])
def wsX7_pack : List Cond := .code yX7_pack cX7_pack 2 (some .int) :: ([.fieldLink RX7 72 "BumpheraldModel" "packs" "I", .fieldLink RX7 7 "BumpheraldModel" "version" "[I", .methodLink RX7 75 yX7_in, .static yX7_in, .initialized RX7, .code yX7_in cX7_in 3 (some .boolean), .methodLink RX7 86 yX7_refused, .instanceMethod yX7_refused, .selects RX7 yX7_refused yX7_refused, .code yX7_refused cX7_refused 2 (some .boolean), .fieldLink RX7 69 "BumpheraldModel" "thrown" "I"] ++ wsX70)
def wsX7_need : List Cond := .code yX7_need cX7_need 7 (some .int) :: ([.fieldLink RX7 7 "BumpheraldModel" "version" "[I", .fieldLink RX7 92 "BumpheraldModel" "needs" "I", .fieldLink RX7 13 "BumpheraldModel" "needing" "[I", .fieldLink RX7 16 "BumpheraldModel" "needed" "[I", .fieldLink RX7 19 "BumpheraldModel" "least" "[I", .fieldLink RX7 22 "BumpheraldModel" "most" "[I", .methodLink RX7 89 yX7_isPack, .instanceMethod yX7_isPack, .selects RX7 yX7_isPack yX7_isPack, .initialized RX7, .code yX7_isPack cX7_isPack 2 (some .boolean), .fieldLink RX7 72 "BumpheraldModel" "packs" "I", .methodLink RX7 75 yX7_in, .static yX7_in, .code yX7_in cX7_in 3 (some .boolean), .methodLink RX7 86 yX7_refused, .instanceMethod yX7_refused, .selects RX7 yX7_refused yX7_refused, .code yX7_refused cX7_refused 2 (some .boolean), .fieldLink RX7 69 "BumpheraldModel" "thrown" "I"] ++ wsX70)
def wsX7_trust : List Cond := .code yX7_trust cX7_trust 4 (some .int) :: ([.fieldLink RX7 25 "BumpheraldModel" "trusts" "[I", .methodLink RX7 95 yX7_isReviewer, .static yX7_isReviewer, .initialized RX7, .code yX7_isReviewer cX7_isReviewer 1 (some .boolean), .methodLink RX7 75 yX7_in, .static yX7_in, .code yX7_in cX7_in 3 (some .boolean), .methodLink RX7 86 yX7_refused, .instanceMethod yX7_refused, .selects RX7 yX7_refused yX7_refused, .code yX7_refused cX7_refused 2 (some .boolean), .fieldLink RX7 69 "BumpheraldModel" "thrown" "I"] ++ wsX70)
def wsX7_patience : List Cond := .code yX7_patience cX7_patience 3 (some .int) :: ([.fieldLink RX7 28 "BumpheraldModel" "patience" "I", .methodLink RX7 75 yX7_in, .static yX7_in, .initialized RX7, .code yX7_in cX7_in 3 (some .boolean), .methodLink RX7 86 yX7_refused, .instanceMethod yX7_refused, .selects RX7 yX7_refused yX7_refused, .code yX7_refused cX7_refused 2 (some .boolean), .fieldLink RX7 69 "BumpheraldModel" "thrown" "I"] ++ wsX70)
def wsX7_freeze : List Cond := .code yX7_freeze cX7_freeze 5 (some .int) :: ([.fieldLink RX7 98 "BumpheraldModel" "freezes" "I", .fieldLink RX7 32 "BumpheraldModel" "frozen" "[I", .fieldLink RX7 35 "BumpheraldModel" "from" "[I", .fieldLink RX7 38 "BumpheraldModel" "to" "[I", .methodLink RX7 75 yX7_in, .static yX7_in, .initialized RX7, .code yX7_in cX7_in 3 (some .boolean), .methodLink RX7 86 yX7_refused, .instanceMethod yX7_refused, .selects RX7 yX7_refused yX7_refused, .code yX7_refused cX7_refused 2 (some .boolean), .fieldLink RX7 69 "BumpheraldModel" "thrown" "I"] ++ wsX70)
def wsX7_failing : List Cond := .code yX7_failing cX7_failing 3 (some .int) :: ([.fieldLink RX7 92 "BumpheraldModel" "needs" "I", .fieldLink RX7 66 "BumpheraldModel" "would" "[I", .fieldLink RX7 16 "BumpheraldModel" "needed" "[I", .fieldLink RX7 13 "BumpheraldModel" "needing" "[I", .fieldLink RX7 19 "BumpheraldModel" "least" "[I", .fieldLink RX7 22 "BumpheraldModel" "most" "[I", .methodLink RX7 75 yX7_in, .static yX7_in, .initialized RX7, .code yX7_in cX7_in 3 (some .boolean)] ++ wsX70)
def wsX7_asNow : List Cond := .code yX7_asNow cX7_asNow 2 none :: ([.fieldLink RX7 72 "BumpheraldModel" "packs" "I", .fieldLink RX7 66 "BumpheraldModel" "would" "[I", .fieldLink RX7 7 "BumpheraldModel" "version" "[I"] ++ wsX70)
def wsX7_failsWith_r1 : List Cond := [Cond.fieldLink RX7 79 "BumpheraldModel" "raises" "I", Cond.fieldLink RX7 41 "BumpheraldModel" "state" "[I", Cond.fieldLink RX7 56 "BumpheraldModel" "group" "[I", Cond.fieldLink RX7 66 "BumpheraldModel" "would" "[I", Cond.fieldLink RX7 44 "BumpheraldModel" "pack" "[I", Cond.fieldLink RX7 47 "BumpheraldModel" "target" "[I", Cond.methodLink RX7 101 yX7_asNow, Cond.instanceMethod yX7_asNow, Cond.selects RX7 yX7_asNow yX7_asNow, Cond.initialized RX7, Cond.code yX7_asNow cX7_asNow 2 none, Cond.fieldLink RX7 72 "BumpheraldModel" "packs" "I", Cond.fieldLink RX7 7 "BumpheraldModel" "version" "[I", Cond.methodLink RX7 104 yX7_failing, Cond.instanceMethod yX7_failing, Cond.selects RX7 yX7_failing yX7_failing, Cond.code yX7_failing cX7_failing 3 (some .int), Cond.fieldLink RX7 92 "BumpheraldModel" "needs" "I", Cond.fieldLink RX7 16 "BumpheraldModel" "needed" "[I", Cond.fieldLink RX7 13 "BumpheraldModel" "needing" "[I", Cond.fieldLink RX7 19 "BumpheraldModel" "least" "[I", Cond.fieldLink RX7 22 "BumpheraldModel" "most" "[I", Cond.methodLink RX7 75 yX7_in, Cond.static yX7_in]
def wsX7_failsWith_r2 : List Cond := [Cond.code yX7_in cX7_in 3 (some .boolean)]
def wsX7_failsWith : List Cond := .code yX7_failsWith cX7_failsWith 4 (some .int) :: ((wsX7_failsWith_r1 ++ wsX7_failsWith_r2) ++ wsX70)
def wsX7_sizeOf : List Cond := .code yX7_sizeOf cX7_sizeOf 4 (some .int) :: ([.fieldLink RX7 79 "BumpheraldModel" "raises" "I", .fieldLink RX7 41 "BumpheraldModel" "state" "[I", .fieldLink RX7 56 "BumpheraldModel" "group" "[I"] ++ wsX70)
def wsX7_loadOf : List Cond := .code yX7_loadOf cX7_loadOf 5 (some .int) :: ([.fieldLink RX7 79 "BumpheraldModel" "raises" "I", .fieldLink RX7 41 "BumpheraldModel" "state" "[I", .fieldLink RX7 59 "BumpheraldModel" "reviewer" "[I"] ++ wsX70)
def wsX7_has : List Cond := .code yX7_has cX7_has 7 (some .boolean) :: ([.fieldLink RX7 41 "BumpheraldModel" "state" "[I", .fieldLink RX7 56 "BumpheraldModel" "group" "[I", .fieldLink RX7 59 "BumpheraldModel" "reviewer" "[I"] ++ wsX70)
def wsX7_give : List Cond := .code yX7_give cX7_give 6 none :: ([.fieldLink RX7 79 "BumpheraldModel" "raises" "I", .fieldLink RX7 41 "BumpheraldModel" "state" "[I", .fieldLink RX7 56 "BumpheraldModel" "group" "[I", .fieldLink RX7 59 "BumpheraldModel" "reviewer" "[I", .fieldLink RX7 25 "BumpheraldModel" "trusts" "[I", .fieldLink RX7 50 "BumpheraldModel" "risk" "[I", .fieldLink RX7 62 "BumpheraldModel" "isApproved" "[Z", .methodLink RX7 108 yX7_has, .instanceMethod yX7_has, .selects RX7 yX7_has yX7_has, .initialized RX7, .code yX7_has cX7_has 7 (some .boolean), .methodLink RX7 112 yX7_loadOf, .instanceMethod yX7_loadOf, .selects RX7 yX7_loadOf yX7_loadOf, .code yX7_loadOf cX7_loadOf 5 (some .int)] ++ wsX70)
def wsX7_settle : List Cond := .code yX7_settle cX7_settle 4 none :: ([.fieldLink RX7 79 "BumpheraldModel" "raises" "I", .fieldLink RX7 41 "BumpheraldModel" "state" "[I", .fieldLink RX7 56 "BumpheraldModel" "group" "[I", .methodLink RX7 116 yX7_give, .instanceMethod yX7_give, .selects RX7 yX7_give yX7_give, .initialized RX7, .code yX7_give cX7_give 6 none, .fieldLink RX7 59 "BumpheraldModel" "reviewer" "[I", .fieldLink RX7 25 "BumpheraldModel" "trusts" "[I", .fieldLink RX7 50 "BumpheraldModel" "risk" "[I", .fieldLink RX7 62 "BumpheraldModel" "isApproved" "[Z", .methodLink RX7 108 yX7_has, .instanceMethod yX7_has, .selects RX7 yX7_has yX7_has, .code yX7_has cX7_has 7 (some .boolean), .methodLink RX7 112 yX7_loadOf, .instanceMethod yX7_loadOf, .selects RX7 yX7_loadOf yX7_loadOf, .code yX7_loadOf cX7_loadOf 5 (some .int)] ++ wsX70)
def wsX7_open : List Cond := .code yX7_open cX7_open 3 (some .int) :: ([.fieldLink RX7 79 "BumpheraldModel" "raises" "I", .fieldLink RX7 41 "BumpheraldModel" "state" "[I"] ++ wsX70)
def wsX7_raise_r1 : List Cond := [Cond.fieldLink RX7 7 "BumpheraldModel" "version" "[I", Cond.fieldLink RX7 79 "BumpheraldModel" "raises" "I", Cond.fieldLink RX7 41 "BumpheraldModel" "state" "[I", Cond.fieldLink RX7 44 "BumpheraldModel" "pack" "[I", Cond.fieldLink RX7 47 "BumpheraldModel" "target" "[I", Cond.fieldLink RX7 50 "BumpheraldModel" "risk" "[I", Cond.fieldLink RX7 53 "BumpheraldModel" "made" "[I", Cond.fieldLink RX7 123 "BumpheraldModel" "day" "I", Cond.fieldLink RX7 56 "BumpheraldModel" "group" "[I", Cond.fieldLink RX7 59 "BumpheraldModel" "reviewer" "[I", Cond.methodLink RX7 89 yX7_isPack, Cond.instanceMethod yX7_isPack, Cond.selects RX7 yX7_isPack yX7_isPack, Cond.initialized RX7, Cond.code yX7_isPack cX7_isPack 2 (some .boolean), Cond.fieldLink RX7 72 "BumpheraldModel" "packs" "I", Cond.methodLink RX7 75 yX7_in, Cond.static yX7_in, Cond.code yX7_in cX7_in 3 (some .boolean), Cond.methodLink RX7 120 yX7_open, Cond.instanceMethod yX7_open, Cond.selects RX7 yX7_open yX7_open, Cond.code yX7_open cX7_open 3 (some .int), Cond.methodLink RX7 86 yX7_refused]
def wsX7_raise_r2 : List Cond := [Cond.instanceMethod yX7_refused, Cond.selects RX7 yX7_refused yX7_refused, Cond.code yX7_refused cX7_refused 2 (some .boolean), Cond.fieldLink RX7 69 "BumpheraldModel" "thrown" "I", Cond.methodLink RX7 116 yX7_give, Cond.instanceMethod yX7_give, Cond.selects RX7 yX7_give yX7_give, Cond.code yX7_give cX7_give 6 none, Cond.fieldLink RX7 25 "BumpheraldModel" "trusts" "[I", Cond.fieldLink RX7 62 "BumpheraldModel" "isApproved" "[Z", Cond.methodLink RX7 108 yX7_has, Cond.instanceMethod yX7_has, Cond.selects RX7 yX7_has yX7_has, Cond.code yX7_has cX7_has 7 (some .boolean), Cond.methodLink RX7 112 yX7_loadOf, Cond.instanceMethod yX7_loadOf, Cond.selects RX7 yX7_loadOf yX7_loadOf, Cond.code yX7_loadOf cX7_loadOf 5 (some .int)]
def wsX7_raise : List Cond := .code yX7_raise cX7_raise 8 (some .int) :: ((wsX7_raise_r1 ++ wsX7_raise_r2) ++ wsX70)
def wsX7_approve : List Cond := .code yX7_approve cX7_approve 4 (some .boolean) :: ([.fieldLink RX7 41 "BumpheraldModel" "state" "[I", .fieldLink RX7 59 "BumpheraldModel" "reviewer" "[I", .fieldLink RX7 62 "BumpheraldModel" "isApproved" "[Z", .methodLink RX7 82 yX7_isRaise, .instanceMethod yX7_isRaise, .selects RX7 yX7_isRaise yX7_isRaise, .initialized RX7, .code yX7_isRaise cX7_isRaise 2 (some .boolean), .fieldLink RX7 79 "BumpheraldModel" "raises" "I", .methodLink RX7 75 yX7_in, .static yX7_in, .code yX7_in cX7_in 3 (some .boolean), .methodLink RX7 86 yX7_refused, .instanceMethod yX7_refused, .selects RX7 yX7_refused yX7_refused, .code yX7_refused cX7_refused 2 (some .boolean), .fieldLink RX7 69 "BumpheraldModel" "thrown" "I"] ++ wsX70)
def wsX7_landable_r1 : List Cond := [Cond.fieldLink RX7 79 "BumpheraldModel" "raises" "I", Cond.fieldLink RX7 41 "BumpheraldModel" "state" "[I", Cond.fieldLink RX7 56 "BumpheraldModel" "group" "[I", Cond.fieldLink RX7 62 "BumpheraldModel" "isApproved" "[Z", Cond.fieldLink RX7 98 "BumpheraldModel" "freezes" "I", Cond.fieldLink RX7 123 "BumpheraldModel" "day" "I", Cond.fieldLink RX7 35 "BumpheraldModel" "from" "[I", Cond.fieldLink RX7 38 "BumpheraldModel" "to" "[I", Cond.fieldLink RX7 32 "BumpheraldModel" "frozen" "[I", Cond.fieldLink RX7 44 "BumpheraldModel" "pack" "[I", Cond.methodLink RX7 126 yX7_failsWith, Cond.instanceMethod yX7_failsWith, Cond.selects RX7 yX7_failsWith yX7_failsWith, Cond.initialized RX7, Cond.code yX7_failsWith cX7_failsWith 4 (some .int), Cond.fieldLink RX7 66 "BumpheraldModel" "would" "[I", Cond.fieldLink RX7 47 "BumpheraldModel" "target" "[I", Cond.methodLink RX7 101 yX7_asNow, Cond.instanceMethod yX7_asNow, Cond.selects RX7 yX7_asNow yX7_asNow, Cond.code yX7_asNow cX7_asNow 2 none, Cond.fieldLink RX7 72 "BumpheraldModel" "packs" "I", Cond.fieldLink RX7 7 "BumpheraldModel" "version" "[I", Cond.methodLink RX7 104 yX7_failing]
def wsX7_landable_r2 : List Cond := [Cond.instanceMethod yX7_failing, Cond.selects RX7 yX7_failing yX7_failing, Cond.code yX7_failing cX7_failing 3 (some .int), Cond.fieldLink RX7 92 "BumpheraldModel" "needs" "I", Cond.fieldLink RX7 16 "BumpheraldModel" "needed" "[I", Cond.fieldLink RX7 13 "BumpheraldModel" "needing" "[I", Cond.fieldLink RX7 19 "BumpheraldModel" "least" "[I", Cond.fieldLink RX7 22 "BumpheraldModel" "most" "[I", Cond.methodLink RX7 75 yX7_in, Cond.static yX7_in, Cond.code yX7_in cX7_in 3 (some .boolean)]
def wsX7_landable : List Cond := .code yX7_landable cX7_landable 5 (some .boolean) :: ((wsX7_landable_r1 ++ wsX7_landable_r2) ++ wsX70)
def wsX7_land_r1 : List Cond := [Cond.fieldLink RX7 41 "BumpheraldModel" "state" "[I", Cond.fieldLink RX7 56 "BumpheraldModel" "group" "[I", Cond.fieldLink RX7 79 "BumpheraldModel" "raises" "I", Cond.fieldLink RX7 7 "BumpheraldModel" "version" "[I", Cond.fieldLink RX7 44 "BumpheraldModel" "pack" "[I", Cond.fieldLink RX7 47 "BumpheraldModel" "target" "[I", Cond.fieldLink RX7 62 "BumpheraldModel" "isApproved" "[Z", Cond.methodLink RX7 82 yX7_isRaise, Cond.instanceMethod yX7_isRaise, Cond.selects RX7 yX7_isRaise yX7_isRaise, Cond.initialized RX7, Cond.code yX7_isRaise cX7_isRaise 2 (some .boolean), Cond.methodLink RX7 75 yX7_in, Cond.static yX7_in, Cond.code yX7_in cX7_in 3 (some .boolean), Cond.methodLink RX7 129 yX7_landable, Cond.instanceMethod yX7_landable, Cond.selects RX7 yX7_landable yX7_landable, Cond.code yX7_landable cX7_landable 5 (some .boolean), Cond.fieldLink RX7 98 "BumpheraldModel" "freezes" "I", Cond.fieldLink RX7 123 "BumpheraldModel" "day" "I", Cond.fieldLink RX7 35 "BumpheraldModel" "from" "[I", Cond.fieldLink RX7 38 "BumpheraldModel" "to" "[I", Cond.fieldLink RX7 32 "BumpheraldModel" "frozen" "[I"]
def wsX7_land_r2 : List Cond := [Cond.methodLink RX7 126 yX7_failsWith, Cond.instanceMethod yX7_failsWith, Cond.selects RX7 yX7_failsWith yX7_failsWith, Cond.code yX7_failsWith cX7_failsWith 4 (some .int), Cond.fieldLink RX7 66 "BumpheraldModel" "would" "[I", Cond.methodLink RX7 101 yX7_asNow, Cond.instanceMethod yX7_asNow, Cond.selects RX7 yX7_asNow yX7_asNow, Cond.code yX7_asNow cX7_asNow 2 none, Cond.fieldLink RX7 72 "BumpheraldModel" "packs" "I", Cond.methodLink RX7 104 yX7_failing, Cond.instanceMethod yX7_failing, Cond.selects RX7 yX7_failing yX7_failing, Cond.code yX7_failing cX7_failing 3 (some .int), Cond.fieldLink RX7 92 "BumpheraldModel" "needs" "I", Cond.fieldLink RX7 16 "BumpheraldModel" "needed" "[I", Cond.fieldLink RX7 13 "BumpheraldModel" "needing" "[I", Cond.fieldLink RX7 19 "BumpheraldModel" "least" "[I", Cond.fieldLink RX7 22 "BumpheraldModel" "most" "[I", Cond.methodLink RX7 86 yX7_refused, Cond.instanceMethod yX7_refused, Cond.selects RX7 yX7_refused yX7_refused, Cond.code yX7_refused cX7_refused 2 (some .boolean), Cond.fieldLink RX7 69 "BumpheraldModel" "thrown" "I"]
def wsX7_land_r3 : List Cond := [Cond.methodLink RX7 132 yX7_sizeOf, Cond.instanceMethod yX7_sizeOf, Cond.selects RX7 yX7_sizeOf yX7_sizeOf, Cond.code yX7_sizeOf cX7_sizeOf 4 (some .int), Cond.methodLink RX7 116 yX7_give, Cond.instanceMethod yX7_give, Cond.selects RX7 yX7_give yX7_give, Cond.code yX7_give cX7_give 6 none, Cond.fieldLink RX7 59 "BumpheraldModel" "reviewer" "[I", Cond.fieldLink RX7 25 "BumpheraldModel" "trusts" "[I", Cond.fieldLink RX7 50 "BumpheraldModel" "risk" "[I", Cond.methodLink RX7 108 yX7_has, Cond.instanceMethod yX7_has, Cond.selects RX7 yX7_has yX7_has, Cond.code yX7_has cX7_has 7 (some .boolean), Cond.methodLink RX7 112 yX7_loadOf, Cond.instanceMethod yX7_loadOf, Cond.selects RX7 yX7_loadOf yX7_loadOf, Cond.code yX7_loadOf cX7_loadOf 5 (some .int)]
def wsX7_land : List Cond := .code yX7_land cX7_land 9 (some .int) :: ((wsX7_land_r1 ++ (wsX7_land_r2 ++ wsX7_land_r3)) ++ wsX70)
def wsX7_close_r1 : List Cond := [Cond.fieldLink RX7 41 "BumpheraldModel" "state" "[I", Cond.fieldLink RX7 56 "BumpheraldModel" "group" "[I", Cond.methodLink RX7 82 yX7_isRaise, Cond.instanceMethod yX7_isRaise, Cond.selects RX7 yX7_isRaise yX7_isRaise, Cond.initialized RX7, Cond.code yX7_isRaise cX7_isRaise 2 (some .boolean), Cond.fieldLink RX7 79 "BumpheraldModel" "raises" "I", Cond.methodLink RX7 75 yX7_in, Cond.static yX7_in, Cond.code yX7_in cX7_in 3 (some .boolean), Cond.methodLink RX7 86 yX7_refused, Cond.instanceMethod yX7_refused, Cond.selects RX7 yX7_refused yX7_refused, Cond.code yX7_refused cX7_refused 2 (some .boolean), Cond.fieldLink RX7 69 "BumpheraldModel" "thrown" "I", Cond.methodLink RX7 136 yX7_settle, Cond.instanceMethod yX7_settle, Cond.selects RX7 yX7_settle yX7_settle, Cond.code yX7_settle cX7_settle 4 none, Cond.methodLink RX7 116 yX7_give, Cond.instanceMethod yX7_give, Cond.selects RX7 yX7_give yX7_give, Cond.code yX7_give cX7_give 6 none]
def wsX7_close_r2 : List Cond := [Cond.fieldLink RX7 59 "BumpheraldModel" "reviewer" "[I", Cond.fieldLink RX7 25 "BumpheraldModel" "trusts" "[I", Cond.fieldLink RX7 50 "BumpheraldModel" "risk" "[I", Cond.fieldLink RX7 62 "BumpheraldModel" "isApproved" "[Z", Cond.methodLink RX7 108 yX7_has, Cond.instanceMethod yX7_has, Cond.selects RX7 yX7_has yX7_has, Cond.code yX7_has cX7_has 7 (some .boolean), Cond.methodLink RX7 112 yX7_loadOf, Cond.instanceMethod yX7_loadOf, Cond.selects RX7 yX7_loadOf yX7_loadOf, Cond.code yX7_loadOf cX7_loadOf 5 (some .int)]
def wsX7_close : List Cond := .code yX7_close cX7_close 3 none :: ((wsX7_close_r1 ++ wsX7_close_r2) ++ wsX70)
def wsX7_oldest : List Cond := .code yX7_oldest cX7_oldest 4 (some .int) :: ([.fieldLink RX7 79 "BumpheraldModel" "raises" "I", .fieldLink RX7 41 "BumpheraldModel" "state" "[I", .fieldLink RX7 56 "BumpheraldModel" "group" "[I", .fieldLink RX7 53 "BumpheraldModel" "made" "[I"] ++ wsX70)
def wsX7_wake_r1 : List Cond := [Cond.fieldLink RX7 123 "BumpheraldModel" "day" "I", Cond.fieldLink RX7 28 "BumpheraldModel" "patience" "I", Cond.fieldLink RX7 79 "BumpheraldModel" "raises" "I", Cond.fieldLink RX7 41 "BumpheraldModel" "state" "[I", Cond.fieldLink RX7 56 "BumpheraldModel" "group" "[I", Cond.methodLink RX7 126 yX7_failsWith, Cond.instanceMethod yX7_failsWith, Cond.selects RX7 yX7_failsWith yX7_failsWith, Cond.initialized RX7, Cond.code yX7_failsWith cX7_failsWith 4 (some .int), Cond.fieldLink RX7 66 "BumpheraldModel" "would" "[I", Cond.fieldLink RX7 44 "BumpheraldModel" "pack" "[I", Cond.fieldLink RX7 47 "BumpheraldModel" "target" "[I", Cond.methodLink RX7 101 yX7_asNow, Cond.instanceMethod yX7_asNow, Cond.selects RX7 yX7_asNow yX7_asNow, Cond.code yX7_asNow cX7_asNow 2 none, Cond.fieldLink RX7 72 "BumpheraldModel" "packs" "I", Cond.fieldLink RX7 7 "BumpheraldModel" "version" "[I", Cond.methodLink RX7 104 yX7_failing, Cond.instanceMethod yX7_failing, Cond.selects RX7 yX7_failing yX7_failing, Cond.code yX7_failing cX7_failing 3 (some .int), Cond.fieldLink RX7 92 "BumpheraldModel" "needs" "I"]
def wsX7_wake_r2 : List Cond := [Cond.fieldLink RX7 16 "BumpheraldModel" "needed" "[I", Cond.fieldLink RX7 13 "BumpheraldModel" "needing" "[I", Cond.fieldLink RX7 19 "BumpheraldModel" "least" "[I", Cond.fieldLink RX7 22 "BumpheraldModel" "most" "[I", Cond.methodLink RX7 75 yX7_in, Cond.static yX7_in, Cond.code yX7_in cX7_in 3 (some .boolean), Cond.methodLink RX7 139 yX7_oldest, Cond.instanceMethod yX7_oldest, Cond.selects RX7 yX7_oldest yX7_oldest, Cond.code yX7_oldest cX7_oldest 4 (some .int), Cond.fieldLink RX7 53 "BumpheraldModel" "made" "[I", Cond.methodLink RX7 116 yX7_give, Cond.instanceMethod yX7_give, Cond.selects RX7 yX7_give yX7_give, Cond.code yX7_give cX7_give 6 none, Cond.fieldLink RX7 59 "BumpheraldModel" "reviewer" "[I", Cond.fieldLink RX7 25 "BumpheraldModel" "trusts" "[I", Cond.fieldLink RX7 50 "BumpheraldModel" "risk" "[I", Cond.fieldLink RX7 62 "BumpheraldModel" "isApproved" "[Z", Cond.methodLink RX7 108 yX7_has, Cond.instanceMethod yX7_has, Cond.selects RX7 yX7_has yX7_has, Cond.code yX7_has cX7_has 7 (some .boolean)]
def wsX7_wake_r3 : List Cond := [Cond.methodLink RX7 112 yX7_loadOf, Cond.instanceMethod yX7_loadOf, Cond.selects RX7 yX7_loadOf yX7_loadOf, Cond.code yX7_loadOf cX7_loadOf 5 (some .int)]
def wsX7_wake : List Cond := .code yX7_wake cX7_wake 7 none :: ((wsX7_wake_r1 ++ (wsX7_wake_r2 ++ wsX7_wake_r3)) ++ wsX70)
def wsX7_pass_r1 : List Cond := [Cond.fieldLink RX7 123 "BumpheraldModel" "day" "I", Cond.fieldLink RX7 79 "BumpheraldModel" "raises" "I", Cond.fieldLink RX7 41 "BumpheraldModel" "state" "[I", Cond.fieldLink RX7 56 "BumpheraldModel" "group" "[I", Cond.methodLink RX7 75 yX7_in, Cond.static yX7_in, Cond.initialized RX7, Cond.code yX7_in cX7_in 3 (some .boolean), Cond.methodLink RX7 86 yX7_refused, Cond.instanceMethod yX7_refused, Cond.selects RX7 yX7_refused yX7_refused, Cond.code yX7_refused cX7_refused 2 (some .boolean), Cond.fieldLink RX7 69 "BumpheraldModel" "thrown" "I", Cond.methodLink RX7 142 yX7_wake, Cond.instanceMethod yX7_wake, Cond.selects RX7 yX7_wake yX7_wake, Cond.code yX7_wake cX7_wake 7 none, Cond.fieldLink RX7 28 "BumpheraldModel" "patience" "I", Cond.methodLink RX7 126 yX7_failsWith, Cond.instanceMethod yX7_failsWith, Cond.selects RX7 yX7_failsWith yX7_failsWith, Cond.code yX7_failsWith cX7_failsWith 4 (some .int), Cond.fieldLink RX7 66 "BumpheraldModel" "would" "[I", Cond.fieldLink RX7 44 "BumpheraldModel" "pack" "[I"]
def wsX7_pass_r2 : List Cond := [Cond.fieldLink RX7 47 "BumpheraldModel" "target" "[I", Cond.methodLink RX7 101 yX7_asNow, Cond.instanceMethod yX7_asNow, Cond.selects RX7 yX7_asNow yX7_asNow, Cond.code yX7_asNow cX7_asNow 2 none, Cond.fieldLink RX7 72 "BumpheraldModel" "packs" "I", Cond.fieldLink RX7 7 "BumpheraldModel" "version" "[I", Cond.methodLink RX7 104 yX7_failing, Cond.instanceMethod yX7_failing, Cond.selects RX7 yX7_failing yX7_failing, Cond.code yX7_failing cX7_failing 3 (some .int), Cond.fieldLink RX7 92 "BumpheraldModel" "needs" "I", Cond.fieldLink RX7 16 "BumpheraldModel" "needed" "[I", Cond.fieldLink RX7 13 "BumpheraldModel" "needing" "[I", Cond.fieldLink RX7 19 "BumpheraldModel" "least" "[I", Cond.fieldLink RX7 22 "BumpheraldModel" "most" "[I", Cond.methodLink RX7 139 yX7_oldest, Cond.instanceMethod yX7_oldest, Cond.selects RX7 yX7_oldest yX7_oldest, Cond.code yX7_oldest cX7_oldest 4 (some .int), Cond.fieldLink RX7 53 "BumpheraldModel" "made" "[I", Cond.methodLink RX7 116 yX7_give, Cond.instanceMethod yX7_give, Cond.selects RX7 yX7_give yX7_give]
def wsX7_pass_r3 : List Cond := [Cond.code yX7_give cX7_give 6 none, Cond.fieldLink RX7 59 "BumpheraldModel" "reviewer" "[I", Cond.fieldLink RX7 25 "BumpheraldModel" "trusts" "[I", Cond.fieldLink RX7 50 "BumpheraldModel" "risk" "[I", Cond.fieldLink RX7 62 "BumpheraldModel" "isApproved" "[Z", Cond.methodLink RX7 108 yX7_has, Cond.instanceMethod yX7_has, Cond.selects RX7 yX7_has yX7_has, Cond.code yX7_has cX7_has 7 (some .boolean), Cond.methodLink RX7 112 yX7_loadOf, Cond.instanceMethod yX7_loadOf, Cond.selects RX7 yX7_loadOf yX7_loadOf, Cond.code yX7_loadOf cX7_loadOf 5 (some .int)]
def wsX7_pass : List Cond := .code yX7_pass cX7_pass 4 (some .int) :: ((wsX7_pass_r1 ++ (wsX7_pass_r2 ++ wsX7_pass_r3)) ++ wsX70)
def wsX7_day : List Cond := .code yX7_day cX7_day 1 (some .int) :: ([.fieldLink RX7 69 "BumpheraldModel" "thrown" "I", .fieldLink RX7 123 "BumpheraldModel" "day" "I"] ++ wsX70)
def wsX7_version : List Cond := .code yX7_version cX7_version 2 (some .int) :: ([.fieldLink RX7 7 "BumpheraldModel" "version" "[I", .methodLink RX7 89 yX7_isPack, .instanceMethod yX7_isPack, .selects RX7 yX7_isPack yX7_isPack, .initialized RX7, .code yX7_isPack cX7_isPack 2 (some .boolean), .fieldLink RX7 72 "BumpheraldModel" "packs" "I", .methodLink RX7 75 yX7_in, .static yX7_in, .code yX7_in cX7_in 3 (some .boolean), .methodLink RX7 86 yX7_refused, .instanceMethod yX7_refused, .selects RX7 yX7_refused yX7_refused, .code yX7_refused cX7_refused 2 (some .boolean), .fieldLink RX7 69 "BumpheraldModel" "thrown" "I"] ++ wsX70)
def wsX7_raiseOf : List Cond := .code yX7_raiseOf cX7_raiseOf 3 (some .int) :: ([.fieldLink RX7 41 "BumpheraldModel" "state" "[I", .fieldLink RX7 44 "BumpheraldModel" "pack" "[I", .fieldLink RX7 47 "BumpheraldModel" "target" "[I", .fieldLink RX7 59 "BumpheraldModel" "reviewer" "[I", .fieldLink RX7 62 "BumpheraldModel" "isApproved" "[Z", .fieldLink RX7 56 "BumpheraldModel" "group" "[I", .methodLink RX7 82 yX7_isRaise, .instanceMethod yX7_isRaise, .selects RX7 yX7_isRaise yX7_isRaise, .initialized RX7, .code yX7_isRaise cX7_isRaise 2 (some .boolean), .fieldLink RX7 79 "BumpheraldModel" "raises" "I", .methodLink RX7 75 yX7_in, .static yX7_in, .code yX7_in cX7_in 3 (some .boolean), .methodLink RX7 86 yX7_refused, .instanceMethod yX7_refused, .selects RX7 yX7_refused yX7_refused, .code yX7_refused cX7_refused 2 (some .boolean), .fieldLink RX7 69 "BumpheraldModel" "thrown" "I", .methodLink RX7 132 yX7_sizeOf, .instanceMethod yX7_sizeOf, .selects RX7 yX7_sizeOf yX7_sizeOf, .code yX7_sizeOf cX7_sizeOf 4 (some .int)] ++ wsX70)
def wsX7_fails_r1 : List Cond := [Cond.fieldLink RX7 41 "BumpheraldModel" "state" "[I", Cond.fieldLink RX7 56 "BumpheraldModel" "group" "[I", Cond.methodLink RX7 82 yX7_isRaise, Cond.instanceMethod yX7_isRaise, Cond.selects RX7 yX7_isRaise yX7_isRaise, Cond.initialized RX7, Cond.code yX7_isRaise cX7_isRaise 2 (some .boolean), Cond.fieldLink RX7 79 "BumpheraldModel" "raises" "I", Cond.methodLink RX7 75 yX7_in, Cond.static yX7_in, Cond.code yX7_in cX7_in 3 (some .boolean), Cond.methodLink RX7 86 yX7_refused, Cond.instanceMethod yX7_refused, Cond.selects RX7 yX7_refused yX7_refused, Cond.code yX7_refused cX7_refused 2 (some .boolean), Cond.fieldLink RX7 69 "BumpheraldModel" "thrown" "I", Cond.methodLink RX7 126 yX7_failsWith, Cond.instanceMethod yX7_failsWith, Cond.selects RX7 yX7_failsWith yX7_failsWith, Cond.code yX7_failsWith cX7_failsWith 4 (some .int), Cond.fieldLink RX7 66 "BumpheraldModel" "would" "[I", Cond.fieldLink RX7 44 "BumpheraldModel" "pack" "[I", Cond.fieldLink RX7 47 "BumpheraldModel" "target" "[I", Cond.methodLink RX7 101 yX7_asNow]
def wsX7_fails_r2 : List Cond := [Cond.instanceMethod yX7_asNow, Cond.selects RX7 yX7_asNow yX7_asNow, Cond.code yX7_asNow cX7_asNow 2 none, Cond.fieldLink RX7 72 "BumpheraldModel" "packs" "I", Cond.fieldLink RX7 7 "BumpheraldModel" "version" "[I", Cond.methodLink RX7 104 yX7_failing, Cond.instanceMethod yX7_failing, Cond.selects RX7 yX7_failing yX7_failing, Cond.code yX7_failing cX7_failing 3 (some .int), Cond.fieldLink RX7 92 "BumpheraldModel" "needs" "I", Cond.fieldLink RX7 16 "BumpheraldModel" "needed" "[I", Cond.fieldLink RX7 13 "BumpheraldModel" "needing" "[I", Cond.fieldLink RX7 19 "BumpheraldModel" "least" "[I", Cond.fieldLink RX7 22 "BumpheraldModel" "most" "[I"]
def wsX7_fails : List Cond := .code yX7_fails cX7_fails 3 (some .int) :: ((wsX7_fails_r1 ++ wsX7_fails_r2) ++ wsX70)
def wsX7_canLand_r1 : List Cond := [Cond.fieldLink RX7 41 "BumpheraldModel" "state" "[I", Cond.fieldLink RX7 56 "BumpheraldModel" "group" "[I", Cond.methodLink RX7 82 yX7_isRaise, Cond.instanceMethod yX7_isRaise, Cond.selects RX7 yX7_isRaise yX7_isRaise, Cond.initialized RX7, Cond.code yX7_isRaise cX7_isRaise 2 (some .boolean), Cond.fieldLink RX7 79 "BumpheraldModel" "raises" "I", Cond.methodLink RX7 75 yX7_in, Cond.static yX7_in, Cond.code yX7_in cX7_in 3 (some .boolean), Cond.methodLink RX7 86 yX7_refused, Cond.instanceMethod yX7_refused, Cond.selects RX7 yX7_refused yX7_refused, Cond.code yX7_refused cX7_refused 2 (some .boolean), Cond.fieldLink RX7 69 "BumpheraldModel" "thrown" "I", Cond.methodLink RX7 129 yX7_landable, Cond.instanceMethod yX7_landable, Cond.selects RX7 yX7_landable yX7_landable, Cond.code yX7_landable cX7_landable 5 (some .boolean), Cond.fieldLink RX7 62 "BumpheraldModel" "isApproved" "[Z", Cond.fieldLink RX7 98 "BumpheraldModel" "freezes" "I", Cond.fieldLink RX7 123 "BumpheraldModel" "day" "I", Cond.fieldLink RX7 35 "BumpheraldModel" "from" "[I"]
def wsX7_canLand_r2 : List Cond := [Cond.fieldLink RX7 38 "BumpheraldModel" "to" "[I", Cond.fieldLink RX7 32 "BumpheraldModel" "frozen" "[I", Cond.fieldLink RX7 44 "BumpheraldModel" "pack" "[I", Cond.methodLink RX7 126 yX7_failsWith, Cond.instanceMethod yX7_failsWith, Cond.selects RX7 yX7_failsWith yX7_failsWith, Cond.code yX7_failsWith cX7_failsWith 4 (some .int), Cond.fieldLink RX7 66 "BumpheraldModel" "would" "[I", Cond.fieldLink RX7 47 "BumpheraldModel" "target" "[I", Cond.methodLink RX7 101 yX7_asNow, Cond.instanceMethod yX7_asNow, Cond.selects RX7 yX7_asNow yX7_asNow, Cond.code yX7_asNow cX7_asNow 2 none, Cond.fieldLink RX7 72 "BumpheraldModel" "packs" "I", Cond.fieldLink RX7 7 "BumpheraldModel" "version" "[I", Cond.methodLink RX7 104 yX7_failing, Cond.instanceMethod yX7_failing, Cond.selects RX7 yX7_failing yX7_failing, Cond.code yX7_failing cX7_failing 3 (some .int), Cond.fieldLink RX7 92 "BumpheraldModel" "needs" "I", Cond.fieldLink RX7 16 "BumpheraldModel" "needed" "[I", Cond.fieldLink RX7 13 "BumpheraldModel" "needing" "[I", Cond.fieldLink RX7 19 "BumpheraldModel" "least" "[I", Cond.fieldLink RX7 22 "BumpheraldModel" "most" "[I"]
def wsX7_canLand : List Cond := .code yX7_canLand cX7_canLand 3 (some .boolean) :: ((wsX7_canLand_r1 ++ wsX7_canLand_r2) ++ wsX70)
def wsX7_load : List Cond := .code yX7_load cX7_load 2 (some .int) :: ([.methodLink RX7 95 yX7_isReviewer, .static yX7_isReviewer, .initialized RX7, .code yX7_isReviewer cX7_isReviewer 1 (some .boolean), .methodLink RX7 75 yX7_in, .static yX7_in, .code yX7_in cX7_in 3 (some .boolean), .methodLink RX7 86 yX7_refused, .instanceMethod yX7_refused, .selects RX7 yX7_refused yX7_refused, .code yX7_refused cX7_refused 2 (some .boolean), .fieldLink RX7 69 "BumpheraldModel" "thrown" "I", .methodLink RX7 112 yX7_loadOf, .instanceMethod yX7_loadOf, .selects RX7 yX7_loadOf yX7_loadOf, .code yX7_loadOf cX7_loadOf 5 (some .int), .fieldLink RX7 79 "BumpheraldModel" "raises" "I", .fieldLink RX7 41 "BumpheraldModel" "state" "[I", .fieldLink RX7 59 "BumpheraldModel" "reviewer" "[I"] ++ wsX70)
def wsX7_fewest_r1 : List Cond := [Cond.fieldLink RX7 41 "BumpheraldModel" "state" "[I", Cond.fieldLink RX7 79 "BumpheraldModel" "raises" "I", Cond.fieldLink RX7 66 "BumpheraldModel" "would" "[I", Cond.fieldLink RX7 44 "BumpheraldModel" "pack" "[I", Cond.fieldLink RX7 47 "BumpheraldModel" "target" "[I", Cond.methodLink RX7 82 yX7_isRaise, Cond.instanceMethod yX7_isRaise, Cond.selects RX7 yX7_isRaise yX7_isRaise, Cond.initialized RX7, Cond.code yX7_isRaise cX7_isRaise 2 (some .boolean), Cond.methodLink RX7 75 yX7_in, Cond.static yX7_in, Cond.code yX7_in cX7_in 3 (some .boolean), Cond.methodLink RX7 86 yX7_refused, Cond.instanceMethod yX7_refused, Cond.selects RX7 yX7_refused yX7_refused, Cond.code yX7_refused cX7_refused 2 (some .boolean), Cond.fieldLink RX7 69 "BumpheraldModel" "thrown" "I", Cond.methodLink RX7 120 yX7_open, Cond.instanceMethod yX7_open, Cond.selects RX7 yX7_open yX7_open, Cond.code yX7_open cX7_open 3 (some .int), Cond.methodLink RX7 101 yX7_asNow, Cond.instanceMethod yX7_asNow]
def wsX7_fewest_r2 : List Cond := [Cond.selects RX7 yX7_asNow yX7_asNow, Cond.code yX7_asNow cX7_asNow 2 none, Cond.fieldLink RX7 72 "BumpheraldModel" "packs" "I", Cond.fieldLink RX7 7 "BumpheraldModel" "version" "[I", Cond.methodLink RX7 104 yX7_failing, Cond.instanceMethod yX7_failing, Cond.selects RX7 yX7_failing yX7_failing, Cond.code yX7_failing cX7_failing 3 (some .int), Cond.fieldLink RX7 92 "BumpheraldModel" "needs" "I", Cond.fieldLink RX7 16 "BumpheraldModel" "needed" "[I", Cond.fieldLink RX7 13 "BumpheraldModel" "needing" "[I", Cond.fieldLink RX7 19 "BumpheraldModel" "least" "[I", Cond.fieldLink RX7 22 "BumpheraldModel" "most" "[I"]
def wsX7_fewest : List Cond := .code yX7_fewest cX7_fewest 10 (some .int) :: ((wsX7_fewest_r1 ++ wsX7_fewest_r2) ++ wsX70)
def wsX7_fewestAnew_r1 : List Cond := [Cond.methodLink RX7 145 yX7_fewest, Cond.instanceMethod yX7_fewest, Cond.selects RX7 yX7_fewest yX7_fewest, Cond.initialized RX7, Cond.code yX7_fewest cX7_fewest 10 (some .int), Cond.fieldLink RX7 41 "BumpheraldModel" "state" "[I", Cond.fieldLink RX7 79 "BumpheraldModel" "raises" "I", Cond.fieldLink RX7 66 "BumpheraldModel" "would" "[I", Cond.fieldLink RX7 44 "BumpheraldModel" "pack" "[I", Cond.fieldLink RX7 47 "BumpheraldModel" "target" "[I", Cond.methodLink RX7 82 yX7_isRaise, Cond.instanceMethod yX7_isRaise, Cond.selects RX7 yX7_isRaise yX7_isRaise, Cond.code yX7_isRaise cX7_isRaise 2 (some .boolean), Cond.methodLink RX7 75 yX7_in, Cond.static yX7_in, Cond.code yX7_in cX7_in 3 (some .boolean), Cond.methodLink RX7 86 yX7_refused, Cond.instanceMethod yX7_refused, Cond.selects RX7 yX7_refused yX7_refused, Cond.code yX7_refused cX7_refused 2 (some .boolean), Cond.fieldLink RX7 69 "BumpheraldModel" "thrown" "I", Cond.methodLink RX7 120 yX7_open, Cond.instanceMethod yX7_open]
def wsX7_fewestAnew_r2 : List Cond := [Cond.selects RX7 yX7_open yX7_open, Cond.code yX7_open cX7_open 3 (some .int), Cond.methodLink RX7 101 yX7_asNow, Cond.instanceMethod yX7_asNow, Cond.selects RX7 yX7_asNow yX7_asNow, Cond.code yX7_asNow cX7_asNow 2 none, Cond.fieldLink RX7 72 "BumpheraldModel" "packs" "I", Cond.fieldLink RX7 7 "BumpheraldModel" "version" "[I", Cond.methodLink RX7 104 yX7_failing, Cond.instanceMethod yX7_failing, Cond.selects RX7 yX7_failing yX7_failing, Cond.code yX7_failing cX7_failing 3 (some .int), Cond.fieldLink RX7 92 "BumpheraldModel" "needs" "I", Cond.fieldLink RX7 16 "BumpheraldModel" "needed" "[I", Cond.fieldLink RX7 13 "BumpheraldModel" "needing" "[I", Cond.fieldLink RX7 19 "BumpheraldModel" "least" "[I", Cond.fieldLink RX7 22 "BumpheraldModel" "most" "[I"]
def wsX7_fewestAnew : List Cond := .code yX7_fewestAnew cX7_fewestAnew 2 (some .int) :: ((wsX7_fewestAnew_r1 ++ wsX7_fewestAnew_r2) ++ wsX70)
def wsX7_told : List Cond := .code yX7_told cX7_told 4 (some .char) :: ([.fieldLink RX7 41 "BumpheraldModel" "state" "[I", .fieldLink RX7 44 "BumpheraldModel" "pack" "[I", .fieldLink RX7 47 "BumpheraldModel" "target" "[I", .fieldLink RX7 56 "BumpheraldModel" "group" "[I", .methodLink RX7 82 yX7_isRaise, .instanceMethod yX7_isRaise, .selects RX7 yX7_isRaise yX7_isRaise, .initialized RX7, .code yX7_isRaise cX7_isRaise 2 (some .boolean), .fieldLink RX7 79 "BumpheraldModel" "raises" "I", .methodLink RX7 75 yX7_in, .static yX7_in, .code yX7_in cX7_in 3 (some .boolean), .methodLink RX7 86 yX7_refused, .instanceMethod yX7_refused, .selects RX7 yX7_refused yX7_refused, .code yX7_refused cX7_refused 2 (some .boolean), .fieldLink RX7 69 "BumpheraldModel" "thrown" "I", .methodLink RX7 132 yX7_sizeOf, .instanceMethod yX7_sizeOf, .selects RX7 yX7_sizeOf yX7_sizeOf, .code yX7_sizeOf cX7_sizeOf 4 (some .int)] ++ wsX70)
def wsL_pack : List Cond := .codeWith yL_pack cL_pack 4 (some .int) [(0, 9, 12, 13), (0, 9, 15, 15)] :: ([.classLink RL 13 "java/lang/IllegalArgumentException", .classLink RL 15 "java/lang/IllegalStateException", .methodLink RL 7 yX6_pack, .instanceMethod yX6_pack, .selects RX6 yX6_pack yX6_pack, .initialized RX6, .code yX6_pack cX6_pack 2 (some .int), .classLink RX6 58 "java/lang/IllegalArgumentException", .initialized "java/lang/IllegalArgumentException", .classLink RX6 68 "java/lang/IllegalStateException", .initialized "java/lang/IllegalStateException", .fieldLink RX6 10 "Bumpherald" "packages" "LBumpherald$Packages;", .fieldLink RX6 65 "Bumpherald$Packages" "count" "I", .methodLink RX6 54 yX6_isWithin, .static yX6_isWithin, .code yX6_isWithin cX6_isWithin 3 (some .boolean), .methodLink RX6 73 yX3_add, .instanceMethod yX3_add, .selects RX3 yX3_add yX3_add, .initialized RX3, .code yX3_add cX3_add 2 (some .int), .fieldLink RX3 9 "Bumpherald$Packages" "versions" "[I", .fieldLink RX3 30 "Bumpherald$Packages" "count" "I"] ++ wsX60 ++ wsX30 ++ (vx_atS RX6 62 "java/lang/IllegalArgumentException" ["java/lang/RuntimeException", "java/lang/Exception"]).filter goodWord ++ (vx_atS RX6 72 "java/lang/IllegalStateException" ["java/lang/RuntimeException", "java/lang/Exception"]).filter goodWord)
def wsL_need_r1 : List Cond := [Cond.classLink RL 21 "java/lang/IndexOutOfBoundsException", Cond.classLink RL 13 "java/lang/IllegalArgumentException", Cond.classLink RL 15 "java/lang/IllegalStateException", Cond.methodLink RL 17 yX6_need, Cond.instanceMethod yX6_need, Cond.selects RX6 yX6_need yX6_need, Cond.initialized RX6, Cond.code yX6_need cX6_need 5 (some .int), Cond.classLink RX6 58 "java/lang/IllegalArgumentException", Cond.initialized "java/lang/IllegalArgumentException", Cond.classLink RX6 68 "java/lang/IllegalStateException", Cond.initialized "java/lang/IllegalStateException", Cond.fieldLink RX6 10 "Bumpherald" "packages" "LBumpherald$Packages;", Cond.fieldLink RX6 83 "Bumpherald$Packages" "versions" "[I", Cond.fieldLink RX6 89 "Bumpherald$Packages" "needCount" "I", Cond.methodLink RX6 77 yX6_checkPackage, Cond.instanceMethod yX6_checkPackage, Cond.selects RX6 yX6_checkPackage yX6_checkPackage, Cond.code yX6_checkPackage cX6_checkPackage 2 none, Cond.classLink RX6 216 "java/lang/IndexOutOfBoundsException", Cond.initialized "java/lang/IndexOutOfBoundsException", Cond.fieldLink RX6 65 "Bumpherald$Packages" "count" "I", Cond.methodLink RX6 54 yX6_isWithin, Cond.static yX6_isWithin]
def wsL_need_r2 : List Cond := [Cond.code yX6_isWithin cX6_isWithin 3 (some .boolean), Cond.methodLink RX6 94 yX3_addNeed, Cond.instanceMethod yX3_addNeed, Cond.selects RX3 yX3_addNeed yX3_addNeed, Cond.initialized RX3, Cond.code yX3_addNeed cX3_addNeed 5 (some .int), Cond.fieldLink RX3 18 "Bumpherald$Packages" "needOnes" "[I", Cond.fieldLink RX3 34 "Bumpherald$Packages" "needCount" "I", Cond.fieldLink RX3 21 "Bumpherald$Packages" "needOthers" "[I", Cond.fieldLink RX3 24 "Bumpherald$Packages" "needLeasts" "[I", Cond.fieldLink RX3 27 "Bumpherald$Packages" "needMosts" "[I"]
def wsL_need : List Cond := .codeWith yL_need cL_need 7 (some .int) [(0, 14, 17, 21), (0, 14, 21, 13), (0, 14, 25, 15)] :: ((wsL_need_r1 ++ wsL_need_r2) ++ wsX60 ++ wsX30 ++ (vx_atS RX6 62 "java/lang/IllegalArgumentException" ["java/lang/RuntimeException", "java/lang/Exception"]).filter goodWord ++ (vx_atS RX6 72 "java/lang/IllegalStateException" ["java/lang/RuntimeException", "java/lang/Exception"]).filter goodWord ++ (vx_atS RX6 220 "java/lang/IndexOutOfBoundsException" ["java/lang/RuntimeException", "java/lang/Exception"]).filter goodWord)
def wsL_trust : List Cond := .codeWith yL_trust cL_trust 5 (some .int) [(0, 10, 13, 21), (0, 10, 17, 13)] :: ([.classLink RL 21 "java/lang/IndexOutOfBoundsException", .classLink RL 13 "java/lang/IllegalArgumentException", .methodLink RL 23 yX6_trust, .instanceMethod yX6_trust, .selects RX6 yX6_trust yX6_trust, .initialized RX6, .code yX6_trust cX6_trust 4 (some .int), .classLink RX6 58 "java/lang/IllegalArgumentException", .initialized "java/lang/IllegalArgumentException", .fieldLink RX6 37 "Bumpherald" "reviewers" "LBumpherald$Reviewers;", .fieldLink RX6 103 "Bumpherald$Reviewers" "trusts" "[I", .methodLink RX6 98 yX6_checkReviewer, .instanceMethod yX6_checkReviewer, .selects RX6 yX6_checkReviewer yX6_checkReviewer, .code yX6_checkReviewer cX6_checkReviewer 2 none, .classLink RX6 216 "java/lang/IndexOutOfBoundsException", .initialized "java/lang/IndexOutOfBoundsException", .methodLink RX6 54 yX6_isWithin, .static yX6_isWithin, .code yX6_isWithin cX6_isWithin 3 (some .boolean)] ++ wsX60 ++ wsX50 ++ (vx_atS RX6 62 "java/lang/IllegalArgumentException" ["java/lang/RuntimeException", "java/lang/Exception"]).filter goodWord ++ (vx_atS RX6 220 "java/lang/IndexOutOfBoundsException" ["java/lang/RuntimeException", "java/lang/Exception"]).filter goodWord)
def wsL_patience : List Cond := .codeWith yL_patience cL_patience 4 (some .int) [(0, 9, 12, 13)] :: ([.classLink RL 13 "java/lang/IllegalArgumentException", .methodLink RL 27 yX6_patience, .instanceMethod yX6_patience, .selects RX6 yX6_patience yX6_patience, .initialized RX6, .code yX6_patience cX6_patience 3 (some .int), .classLink RX6 58 "java/lang/IllegalArgumentException", .initialized "java/lang/IllegalArgumentException", .fieldLink RX6 46 "Bumpherald" "herding" "LBumpherald$Herding;", .fieldLink RX6 108 "Bumpherald$Herding" "patience" "I", .methodLink RX6 54 yX6_isWithin, .static yX6_isWithin, .code yX6_isWithin cX6_isWithin 3 (some .boolean)] ++ wsX60 ++ wsX20 ++ (vx_atS RX6 62 "java/lang/IllegalArgumentException" ["java/lang/RuntimeException", "java/lang/Exception"]).filter goodWord)
def wsL_freeze_r1 : List Cond := [Cond.classLink RL 13 "java/lang/IllegalArgumentException", Cond.classLink RL 15 "java/lang/IllegalStateException", Cond.methodLink RL 30 yX6_freeze, Cond.instanceMethod yX6_freeze, Cond.selects RX6 yX6_freeze yX6_freeze, Cond.initialized RX6, Cond.code yX6_freeze cX6_freeze 4 (some .int), Cond.classLink RX6 58 "java/lang/IllegalArgumentException", Cond.initialized "java/lang/IllegalArgumentException", Cond.classLink RX6 68 "java/lang/IllegalStateException", Cond.initialized "java/lang/IllegalStateException", Cond.fieldLink RX6 19 "Bumpherald" "freezes" "LBumpherald$Freezes;", Cond.fieldLink RX6 113 "Bumpherald$Freezes" "count" "I", Cond.methodLink RX6 54 yX6_isWithin, Cond.static yX6_isWithin, Cond.code yX6_isWithin cX6_isWithin 3 (some .boolean), Cond.methodLink RX6 116 yX1_add, Cond.instanceMethod yX1_add, Cond.selects RX1 yX1_add yX1_add, Cond.initialized RX1, Cond.code yX1_add cX1_add 4 (some .int), Cond.fieldLink RX1 9 "Bumpherald$Freezes" "sets" "[I", Cond.fieldLink RX1 21 "Bumpherald$Freezes" "count" "I", Cond.fieldLink RX1 15 "Bumpherald$Freezes" "firstDays" "[I"]
def wsL_freeze_r2 : List Cond := [Cond.fieldLink RX1 18 "Bumpherald$Freezes" "lastDays" "[I"]
def wsL_freeze : List Cond := .codeWith yL_freeze cL_freeze 6 (some .int) [(0, 12, 15, 13), (0, 12, 19, 15)] :: ((wsL_freeze_r1 ++ wsL_freeze_r2) ++ wsX60 ++ wsX10 ++ (vx_atS RX6 62 "java/lang/IllegalArgumentException" ["java/lang/RuntimeException", "java/lang/Exception"]).filter goodWord ++ (vx_atS RX6 72 "java/lang/IllegalStateException" ["java/lang/RuntimeException", "java/lang/Exception"]).filter goodWord)
def wsL_raise_r1 : List Cond := [Cond.classLink RL 21 "java/lang/IndexOutOfBoundsException", Cond.classLink RL 13 "java/lang/IllegalArgumentException", Cond.classLink RL 15 "java/lang/IllegalStateException", Cond.methodLink RL 34 yX6_raise, Cond.instanceMethod yX6_raise, Cond.selects RX6 yX6_raise yX6_raise, Cond.initialized RX6, Cond.code yX6_raise cX6_raise 5 (some .int), Cond.classLink RX6 58 "java/lang/IllegalArgumentException", Cond.initialized "java/lang/IllegalArgumentException", Cond.classLink RX6 68 "java/lang/IllegalStateException", Cond.initialized "java/lang/IllegalStateException", Cond.fieldLink RX6 10 "Bumpherald" "packages" "LBumpherald$Packages;", Cond.fieldLink RX6 83 "Bumpherald$Packages" "versions" "[I", Cond.fieldLink RX6 28 "Bumpherald" "raises" "LBumpherald$Raises;", Cond.fieldLink RX6 126 "Bumpherald$Raises" "openCount" "I", Cond.fieldLink RX6 129 "Bumpherald$Raises" "count" "I", Cond.fieldLink RX6 50 "Bumpherald" "today" "I", Cond.fieldLink RX6 37 "Bumpherald" "reviewers" "LBumpherald$Reviewers;", Cond.methodLink RX6 77 yX6_checkPackage, Cond.instanceMethod yX6_checkPackage, Cond.selects RX6 yX6_checkPackage yX6_checkPackage, Cond.code yX6_checkPackage cX6_checkPackage 2 none, Cond.classLink RX6 216 "java/lang/IndexOutOfBoundsException"]
def wsL_raise_r2 : List Cond := [Cond.initialized "java/lang/IndexOutOfBoundsException", Cond.fieldLink RX6 65 "Bumpherald$Packages" "count" "I", Cond.methodLink RX6 54 yX6_isWithin, Cond.static yX6_isWithin, Cond.code yX6_isWithin cX6_isWithin 3 (some .boolean), Cond.methodLink RX6 123 yX4_bitOfPackage, Cond.instanceMethod yX4_bitOfPackage, Cond.selects RX4 yX4_bitOfPackage yX4_bitOfPackage, Cond.initialized RX4, Cond.code yX4_bitOfPackage cX4_bitOfPackage 3 (some .int), Cond.fieldLink RX4 44 "Bumpherald$Raises" "openCount" "I", Cond.fieldLink RX4 9 "Bumpherald$Raises" "packs" "[I", Cond.fieldLink RX4 37 "Bumpherald$Raises" "open" "[I", Cond.methodLink RX6 132 yX4_add, Cond.instanceMethod yX4_add, Cond.selects RX4 yX4_add yX4_add, Cond.code yX4_add cX4_add 6 (some .int), Cond.fieldLink RX4 40 "Bumpherald$Raises" "count" "I", Cond.fieldLink RX4 15 "Bumpherald$Raises" "versions" "[I", Cond.fieldLink RX4 18 "Bumpherald$Raises" "risks" "[I", Cond.fieldLink RX4 21 "Bumpherald$Raises" "days" "[I", Cond.fieldLink RX4 24 "Bumpherald$Raises" "states" "[I", Cond.fieldLink RX4 27 "Bumpherald$Raises" "reviewers" "[I", Cond.fieldLink RX4 30 "Bumpherald$Raises" "approved" "[Z"]
def wsL_raise_r3 : List Cond := [Cond.fieldLink RX4 34 "Bumpherald$Raises" "groups" "[I", Cond.methodLink RX4 51 yX4_listOpen, Cond.instanceMethod yX4_listOpen, Cond.selects RX4 yX4_listOpen yX4_listOpen, Cond.code yX4_listOpen cX4_listOpen 2 none, Cond.methodLink RX6 134 yX4_bitOf, Cond.instanceMethod yX4_bitOf, Cond.selects RX4 yX4_bitOf yX4_bitOf, Cond.code yX4_bitOf cX4_bitOf 3 (some .int), Cond.methodLink RX6 137 yX5_giveAnew, Cond.instanceMethod yX5_giveAnew, Cond.selects RX5 yX5_giveAnew yX5_giveAnew, Cond.initialized RX5, Cond.code yX5_giveAnew cX5_giveAnew 4 none, Cond.fieldLink RX5 15 "Bumpherald$Reviewers" "raises" "LBumpherald$Raises;", Cond.fieldLink RX5 19 "Bumpherald$Raises" "openCount" "I", Cond.fieldLink RX5 25 "Bumpherald$Raises" "open" "[I", Cond.methodLink RX5 31 yX4_isIn, Cond.instanceMethod yX4_isIn, Cond.selects RX4 yX4_isIn yX4_isIn, Cond.code yX4_isIn cX4_isIn 3 (some .boolean), Cond.methodLink RX5 35 yX5_hasOwnReviewer, Cond.instanceMethod yX5_hasOwnReviewer, Cond.selects RX5 yX5_hasOwnReviewer yX5_hasOwnReviewer]
def wsL_raise_r4 : List Cond := [Cond.code yX5_hasOwnReviewer cX5_hasOwnReviewer 3 (some .boolean), Cond.fieldLink RX5 28 "Bumpherald$Raises" "reviewers" "[I", Cond.methodLink RX5 47 yX5_reviewsAnother, Cond.instanceMethod yX5_reviewsAnother, Cond.selects RX5 yX5_reviewsAnother yX5_reviewsAnother, Cond.code yX5_reviewsAnother cX5_reviewsAnother 6 (some .boolean), Cond.fieldLink RX5 51 "Bumpherald$Raises" "groups" "[I", Cond.methodLink RX5 39 yX5_bestFor, Cond.instanceMethod yX5_bestFor, Cond.selects RX5 yX5_bestFor yX5_bestFor, Cond.code yX5_bestFor cX5_bestFor 6 (some .int), Cond.fieldLink RX5 9 "Bumpherald$Reviewers" "trusts" "[I", Cond.fieldLink RX5 58 "Bumpherald$Raises" "risks" "[I", Cond.methodLink RX5 54 yX5_loadWithout, Cond.instanceMethod yX5_loadWithout, Cond.selects RX5 yX5_loadWithout yX5_loadWithout, Cond.code yX5_loadWithout cX5_loadWithout 6 (some .int), Cond.methodLink RX5 43 yX5_give, Cond.instanceMethod yX5_give, Cond.selects RX5 yX5_give yX5_give, Cond.code yX5_give cX5_give 3 none, Cond.fieldLink RX5 61 "Bumpherald$Raises" "approved" "[Z"]
def wsL_raise : List Cond := .codeWith yL_raise cL_raise 6 (some .int) [(0, 12, 15, 21), (0, 12, 19, 13), (0, 12, 23, 15)] :: ((wsL_raise_r1 ++ (wsL_raise_r2 ++ (wsL_raise_r3 ++ wsL_raise_r4))) ++ wsX60 ++ wsX30 ++ wsX40 ++ wsX50 ++ (vx_atS RX6 62 "java/lang/IllegalArgumentException" ["java/lang/RuntimeException", "java/lang/Exception"]).filter goodWord ++ (vx_atS RX6 72 "java/lang/IllegalStateException" ["java/lang/RuntimeException", "java/lang/Exception"]).filter goodWord ++ (vx_atS RX6 220 "java/lang/IndexOutOfBoundsException" ["java/lang/RuntimeException", "java/lang/Exception"]).filter goodWord)
def wsL_approve_r1 : List Cond := [Cond.classLink RL 21 "java/lang/IndexOutOfBoundsException", Cond.classLink RL 15 "java/lang/IllegalStateException", Cond.methodLink RL 37 yX6_approve, Cond.instanceMethod yX6_approve, Cond.selects RX6 yX6_approve yX6_approve, Cond.initialized RX6, Cond.code yX6_approve cX6_approve 3 (some .boolean), Cond.classLink RX6 68 "java/lang/IllegalStateException", Cond.initialized "java/lang/IllegalStateException", Cond.fieldLink RX6 28 "Bumpherald" "raises" "LBumpherald$Raises;", Cond.fieldLink RX6 143 "Bumpherald$Raises" "reviewers" "[I", Cond.fieldLink RX6 147 "Bumpherald$Raises" "approved" "[Z", Cond.methodLink RX6 140 yX6_checkOpen, Cond.instanceMethod yX6_checkOpen, Cond.selects RX6 yX6_checkOpen yX6_checkOpen, Cond.code yX6_checkOpen cX6_checkOpen 2 none, Cond.fieldLink RX6 188 "Bumpherald$Raises" "states" "[I", Cond.methodLink RX6 185 yX6_checkRaise, Cond.instanceMethod yX6_checkRaise, Cond.selects RX6 yX6_checkRaise yX6_checkRaise, Cond.code yX6_checkRaise cX6_checkRaise 2 none, Cond.classLink RX6 216 "java/lang/IndexOutOfBoundsException", Cond.initialized "java/lang/IndexOutOfBoundsException", Cond.fieldLink RX6 129 "Bumpherald$Raises" "count" "I"]
def wsL_approve_r2 : List Cond := [Cond.methodLink RX6 54 yX6_isWithin, Cond.static yX6_isWithin, Cond.code yX6_isWithin cX6_isWithin 3 (some .boolean)]
def wsL_approve : List Cond := .codeWith yL_approve cL_approve 4 (some .int) [(0, 16, 19, 21), (0, 16, 22, 15)] :: ((wsL_approve_r1 ++ wsL_approve_r2) ++ wsX60 ++ wsX40 ++ (vx_atS RX6 72 "java/lang/IllegalStateException" ["java/lang/RuntimeException", "java/lang/Exception"]).filter goodWord ++ (vx_atS RX6 220 "java/lang/IndexOutOfBoundsException" ["java/lang/RuntimeException", "java/lang/Exception"]).filter goodWord)
def wsL_land_r1 : List Cond := [Cond.classLink RL 21 "java/lang/IndexOutOfBoundsException", Cond.classLink RL 15 "java/lang/IllegalStateException", Cond.methodLink RL 41 yX6_land, Cond.instanceMethod yX6_land, Cond.selects RX6 yX6_land yX6_land, Cond.initialized RX6, Cond.code yX6_land cX6_land 5 (some .int), Cond.classLink RX6 68 "java/lang/IllegalStateException", Cond.initialized "java/lang/IllegalStateException", Cond.fieldLink RX6 28 "Bumpherald" "raises" "LBumpherald$Raises;", Cond.fieldLink RX6 46 "Bumpherald" "herding" "LBumpherald$Herding;", Cond.methodLink RX6 140 yX6_checkOpen, Cond.instanceMethod yX6_checkOpen, Cond.selects RX6 yX6_checkOpen yX6_checkOpen, Cond.code yX6_checkOpen cX6_checkOpen 2 none, Cond.fieldLink RX6 188 "Bumpherald$Raises" "states" "[I", Cond.methodLink RX6 185 yX6_checkRaise, Cond.instanceMethod yX6_checkRaise, Cond.selects RX6 yX6_checkRaise yX6_checkRaise, Cond.code yX6_checkRaise cX6_checkRaise 2 none, Cond.classLink RX6 216 "java/lang/IndexOutOfBoundsException", Cond.initialized "java/lang/IndexOutOfBoundsException", Cond.fieldLink RX6 129 "Bumpherald$Raises" "count" "I", Cond.methodLink RX6 54 yX6_isWithin]
def wsL_land_r2 : List Cond := [Cond.static yX6_isWithin, Cond.code yX6_isWithin cX6_isWithin 3 (some .boolean), Cond.methodLink RX6 151 yX4_groupOf, Cond.instanceMethod yX4_groupOf, Cond.selects RX4 yX4_groupOf yX4_groupOf, Cond.initialized RX4, Cond.code yX4_groupOf cX4_groupOf 4 (some .int), Cond.fieldLink RX4 44 "Bumpherald$Raises" "openCount" "I", Cond.fieldLink RX4 34 "Bumpherald$Raises" "groups" "[I", Cond.fieldLink RX4 37 "Bumpherald$Raises" "open" "[I", Cond.methodLink RX6 154 yX6_isLandable, Cond.instanceMethod yX6_isLandable, Cond.selects RX6 yX6_isLandable yX6_isLandable, Cond.code yX6_isLandable cX6_isLandable 2 (some .boolean), Cond.fieldLink RX6 19 "Bumpherald" "freezes" "LBumpherald$Freezes;", Cond.fieldLink RX6 50 "Bumpherald" "today" "I", Cond.methodLink RX6 200 yX4_failing, Cond.instanceMethod yX4_failing, Cond.selects RX4 yX4_failing yX4_failing, Cond.code yX4_failing cX4_failing 2 (some .int), Cond.fieldLink RX4 47 "Bumpherald$Raises" "packages" "LBumpherald$Packages;", Cond.methodLink RX4 65 yX4_plan, Cond.instanceMethod yX4_plan, Cond.selects RX4 yX4_plan yX4_plan]
def wsL_land_r3 : List Cond := [Cond.code yX4_plan cX4_plan 3 none, Cond.fieldLink RX4 79 "Bumpherald$Packages" "planned" "[I", Cond.fieldLink RX4 9 "Bumpherald$Raises" "packs" "[I", Cond.fieldLink RX4 15 "Bumpherald$Raises" "versions" "[I", Cond.methodLink RX4 76 yX3_startPlan, Cond.instanceMethod yX3_startPlan, Cond.selects RX3 yX3_startPlan yX3_startPlan, Cond.initialized RX3, Cond.code yX3_startPlan cX3_startPlan 2 none, Cond.fieldLink RX3 30 "Bumpherald$Packages" "count" "I", Cond.fieldLink RX3 15 "Bumpherald$Packages" "planned" "[I", Cond.fieldLink RX3 9 "Bumpherald$Packages" "versions" "[I", Cond.methodLink RX4 54 yX4_isIn, Cond.instanceMethod yX4_isIn, Cond.selects RX4 yX4_isIn yX4_isIn, Cond.code yX4_isIn cX4_isIn 3 (some .boolean), Cond.methodLink RX4 69 yX3_failingInPlan, Cond.instanceMethod yX3_failingInPlan, Cond.selects RX3 yX3_failingInPlan yX3_failingInPlan, Cond.code yX3_failingInPlan cX3_failingInPlan 3 (some .int), Cond.fieldLink RX3 34 "Bumpherald$Packages" "needCount" "I", Cond.methodLink RX3 37 yX3_holdsInPlan, Cond.instanceMethod yX3_holdsInPlan, Cond.selects RX3 yX3_holdsInPlan yX3_holdsInPlan]
def wsL_land_r4 : List Cond := [Cond.code yX3_holdsInPlan cX3_holdsInPlan 3 (some .boolean), Cond.fieldLink RX3 21 "Bumpherald$Packages" "needOthers" "[I", Cond.fieldLink RX3 18 "Bumpherald$Packages" "needOnes" "[I", Cond.fieldLink RX3 24 "Bumpherald$Packages" "needLeasts" "[I", Cond.fieldLink RX3 27 "Bumpherald$Packages" "needMosts" "[I", Cond.methodLink RX6 229 yX4_areApproved, Cond.instanceMethod yX4_areApproved, Cond.selects RX4 yX4_areApproved yX4_areApproved, Cond.code yX4_areApproved cX4_areApproved 3 (some .boolean), Cond.fieldLink RX4 30 "Bumpherald$Raises" "approved" "[Z", Cond.methodLink RX6 232 yX4_packagesOf, Cond.instanceMethod yX4_packagesOf, Cond.selects RX4 yX4_packagesOf yX4_packagesOf, Cond.code yX4_packagesOf cX4_packagesOf 4 (some .int), Cond.methodLink RX6 235 yX1_isFrozen, Cond.instanceMethod yX1_isFrozen, Cond.selects RX1 yX1_isFrozen yX1_isFrozen, Cond.initialized RX1, Cond.code yX1_isFrozen cX1_isFrozen 4 (some .boolean), Cond.fieldLink RX1 21 "Bumpherald$Freezes" "count" "I", Cond.fieldLink RX1 9 "Bumpherald$Freezes" "sets" "[I", Cond.fieldLink RX1 15 "Bumpherald$Freezes" "firstDays" "[I", Cond.fieldLink RX1 18 "Bumpherald$Freezes" "lastDays" "[I", Cond.methodLink RX6 160 yJ6_bitCount_0f7a4]
def wsL_land_r5 : List Cond := [Cond.static yJ6_bitCount_0f7a4, Cond.initialized RJ6, Cond.code yJ6_bitCount_0f7a4 cJ6_bitCount_0f7a4 1 (some .int), Cond.constant RJ6 265 (1431655765), Cond.constant RJ6 266 (858993459), Cond.constant RJ6 267 (252645135), Cond.methodLink RX6 165 yX4_release, Cond.instanceMethod yX4_release, Cond.selects RX4 yX4_release yX4_release, Cond.code yX4_release cX4_release 5 none, Cond.fieldLink RX4 58 "Bumpherald$Packages" "versions" "[I", Cond.methodLink RX4 61 yX4_end, Cond.instanceMethod yX4_end, Cond.selects RX4 yX4_end yX4_end, Cond.code yX4_end cX4_end 3 none, Cond.fieldLink RX4 24 "Bumpherald$Raises" "states" "[I", Cond.methodLink RX4 51 yX4_listOpen, Cond.instanceMethod yX4_listOpen, Cond.selects RX4 yX4_listOpen yX4_listOpen, Cond.code yX4_listOpen cX4_listOpen 2 none, Cond.fieldLink RX4 40 "Bumpherald$Raises" "count" "I", Cond.methodLink RX6 168 yX4_end, Cond.methodLink RX6 172 yX2_part, Cond.instanceMethod yX2_part]
def wsL_land_r6 : List Cond := [Cond.selects RX2 yX2_part yX2_part, Cond.initialized RX2, Cond.code yX2_part cX2_part 3 none, Cond.fieldLink RX2 19 "Bumpherald$Herding" "raises" "LBumpherald$Raises;", Cond.fieldLink RX2 66 "Bumpherald$Raises" "openCount" "I", Cond.fieldLink RX2 72 "Bumpherald$Raises" "approved" "[Z", Cond.fieldLink RX2 75 "Bumpherald$Raises" "open" "[I", Cond.fieldLink RX2 23 "Bumpherald$Herding" "reviewers" "LBumpherald$Reviewers;", Cond.methodLink RX2 69 yX4_isIn, Cond.methodLink RX2 57 yX4_group, Cond.instanceMethod yX4_group, Cond.selects RX4 yX4_group yX4_group, Cond.code yX4_group cX4_group 4 none, Cond.methodLink RX2 61 yX5_giveAnew, Cond.instanceMethod yX5_giveAnew, Cond.selects RX5 yX5_giveAnew yX5_giveAnew, Cond.initialized RX5, Cond.code yX5_giveAnew cX5_giveAnew 4 none, Cond.fieldLink RX5 15 "Bumpherald$Reviewers" "raises" "LBumpherald$Raises;", Cond.fieldLink RX5 19 "Bumpherald$Raises" "openCount" "I", Cond.fieldLink RX5 25 "Bumpherald$Raises" "open" "[I", Cond.methodLink RX5 31 yX4_isIn, Cond.methodLink RX5 35 yX5_hasOwnReviewer, Cond.instanceMethod yX5_hasOwnReviewer]
def wsL_land_r7 : List Cond := [Cond.selects RX5 yX5_hasOwnReviewer yX5_hasOwnReviewer, Cond.code yX5_hasOwnReviewer cX5_hasOwnReviewer 3 (some .boolean), Cond.fieldLink RX5 28 "Bumpherald$Raises" "reviewers" "[I", Cond.methodLink RX5 47 yX5_reviewsAnother, Cond.instanceMethod yX5_reviewsAnother, Cond.selects RX5 yX5_reviewsAnother yX5_reviewsAnother, Cond.code yX5_reviewsAnother cX5_reviewsAnother 6 (some .boolean), Cond.fieldLink RX5 51 "Bumpherald$Raises" "groups" "[I", Cond.methodLink RX5 39 yX5_bestFor, Cond.instanceMethod yX5_bestFor, Cond.selects RX5 yX5_bestFor yX5_bestFor, Cond.code yX5_bestFor cX5_bestFor 6 (some .int), Cond.fieldLink RX5 9 "Bumpherald$Reviewers" "trusts" "[I", Cond.fieldLink RX5 58 "Bumpherald$Raises" "risks" "[I", Cond.methodLink RX5 54 yX5_loadWithout, Cond.instanceMethod yX5_loadWithout, Cond.selects RX5 yX5_loadWithout yX5_loadWithout, Cond.code yX5_loadWithout cX5_loadWithout 6 (some .int), Cond.methodLink RX5 43 yX5_give, Cond.instanceMethod yX5_give, Cond.selects RX5 yX5_give yX5_give, Cond.code yX5_give cX5_give 3 none, Cond.fieldLink RX5 61 "Bumpherald$Raises" "approved" "[Z"]
def wsL_land : List Cond := .codeWith yL_land cL_land 5 (some .int) [(0, 10, 13, 21), (0, 10, 17, 15)] :: ((wsL_land_r1 ++ (wsL_land_r2 ++ (wsL_land_r3 ++ (wsL_land_r4 ++ (wsL_land_r5 ++ (wsL_land_r6 ++ wsL_land_r7)))))) ++ wsX60 ++ wsX40 ++ wsX30 ++ wsX10 ++ wsX20 ++ wsX50 ++ (vx_atS RX6 72 "java/lang/IllegalStateException" ["java/lang/RuntimeException", "java/lang/Exception"]).filter goodWord ++ (vx_atS RX6 220 "java/lang/IndexOutOfBoundsException" ["java/lang/RuntimeException", "java/lang/Exception"]).filter goodWord)
def wsL_close_r1 : List Cond := [Cond.classLink RL 21 "java/lang/IndexOutOfBoundsException", Cond.classLink RL 15 "java/lang/IllegalStateException", Cond.methodLink RL 45 yX6_close, Cond.instanceMethod yX6_close, Cond.selects RX6 yX6_close yX6_close, Cond.initialized RX6, Cond.code yX6_close cX6_close 2 none, Cond.fieldLink RX6 46 "Bumpherald" "herding" "LBumpherald$Herding;", Cond.methodLink RX6 140 yX6_checkOpen, Cond.instanceMethod yX6_checkOpen, Cond.selects RX6 yX6_checkOpen yX6_checkOpen, Cond.code yX6_checkOpen cX6_checkOpen 2 none, Cond.classLink RX6 68 "java/lang/IllegalStateException", Cond.initialized "java/lang/IllegalStateException", Cond.fieldLink RX6 28 "Bumpherald" "raises" "LBumpherald$Raises;", Cond.fieldLink RX6 188 "Bumpherald$Raises" "states" "[I", Cond.methodLink RX6 185 yX6_checkRaise, Cond.instanceMethod yX6_checkRaise, Cond.selects RX6 yX6_checkRaise yX6_checkRaise, Cond.code yX6_checkRaise cX6_checkRaise 2 none, Cond.classLink RX6 216 "java/lang/IndexOutOfBoundsException", Cond.initialized "java/lang/IndexOutOfBoundsException", Cond.fieldLink RX6 129 "Bumpherald$Raises" "count" "I", Cond.methodLink RX6 54 yX6_isWithin]
def wsL_close_r2 : List Cond := [Cond.static yX6_isWithin, Cond.code yX6_isWithin cX6_isWithin 3 (some .boolean), Cond.methodLink RX6 175 yX2_leave, Cond.instanceMethod yX2_leave, Cond.selects RX2 yX2_leave yX2_leave, Cond.initialized RX2, Cond.code yX2_leave cX2_leave 3 none, Cond.fieldLink RX2 19 "Bumpherald$Herding" "raises" "LBumpherald$Raises;", Cond.fieldLink RX2 23 "Bumpherald$Herding" "reviewers" "LBumpherald$Reviewers;", Cond.methodLink RX2 78 yX2_mateOf, Cond.instanceMethod yX2_mateOf, Cond.selects RX2 yX2_mateOf yX2_mateOf, Cond.code yX2_mateOf cX2_mateOf 4 (some .int), Cond.fieldLink RX2 66 "Bumpherald$Raises" "openCount" "I", Cond.fieldLink RX2 75 "Bumpherald$Raises" "open" "[I", Cond.fieldLink RX2 32 "Bumpherald$Raises" "groups" "[I", Cond.methodLink RX2 51 yX4_groupOf, Cond.instanceMethod yX4_groupOf, Cond.selects RX4 yX4_groupOf yX4_groupOf, Cond.initialized RX4, Cond.code yX4_groupOf cX4_groupOf 4 (some .int), Cond.fieldLink RX4 44 "Bumpherald$Raises" "openCount" "I", Cond.fieldLink RX4 34 "Bumpherald$Raises" "groups" "[I", Cond.fieldLink RX4 37 "Bumpherald$Raises" "open" "[I"]
def wsL_close_r3 : List Cond := [Cond.methodLink RX2 81 yX4_bitOf, Cond.instanceMethod yX4_bitOf, Cond.selects RX4 yX4_bitOf yX4_bitOf, Cond.code yX4_bitOf cX4_bitOf 3 (some .int), Cond.methodLink RX2 57 yX4_group, Cond.instanceMethod yX4_group, Cond.selects RX4 yX4_group yX4_group, Cond.code yX4_group cX4_group 4 none, Cond.methodLink RX4 54 yX4_isIn, Cond.instanceMethod yX4_isIn, Cond.selects RX4 yX4_isIn yX4_isIn, Cond.code yX4_isIn cX4_isIn 3 (some .boolean), Cond.methodLink RX2 84 yX4_end, Cond.instanceMethod yX4_end, Cond.selects RX4 yX4_end yX4_end, Cond.code yX4_end cX4_end 3 none, Cond.fieldLink RX4 24 "Bumpherald$Raises" "states" "[I", Cond.methodLink RX4 51 yX4_listOpen, Cond.instanceMethod yX4_listOpen, Cond.selects RX4 yX4_listOpen yX4_listOpen, Cond.code yX4_listOpen cX4_listOpen 2 none, Cond.fieldLink RX4 40 "Bumpherald$Raises" "count" "I", Cond.methodLink RX2 61 yX5_giveAnew, Cond.instanceMethod yX5_giveAnew]
def wsL_close_r4 : List Cond := [Cond.selects RX5 yX5_giveAnew yX5_giveAnew, Cond.initialized RX5, Cond.code yX5_giveAnew cX5_giveAnew 4 none, Cond.fieldLink RX5 15 "Bumpherald$Reviewers" "raises" "LBumpherald$Raises;", Cond.fieldLink RX5 19 "Bumpherald$Raises" "openCount" "I", Cond.fieldLink RX5 25 "Bumpherald$Raises" "open" "[I", Cond.methodLink RX5 31 yX4_isIn, Cond.methodLink RX5 35 yX5_hasOwnReviewer, Cond.instanceMethod yX5_hasOwnReviewer, Cond.selects RX5 yX5_hasOwnReviewer yX5_hasOwnReviewer, Cond.code yX5_hasOwnReviewer cX5_hasOwnReviewer 3 (some .boolean), Cond.fieldLink RX5 28 "Bumpherald$Raises" "reviewers" "[I", Cond.methodLink RX5 47 yX5_reviewsAnother, Cond.instanceMethod yX5_reviewsAnother, Cond.selects RX5 yX5_reviewsAnother yX5_reviewsAnother, Cond.code yX5_reviewsAnother cX5_reviewsAnother 6 (some .boolean), Cond.fieldLink RX5 51 "Bumpherald$Raises" "groups" "[I", Cond.methodLink RX5 39 yX5_bestFor, Cond.instanceMethod yX5_bestFor, Cond.selects RX5 yX5_bestFor yX5_bestFor, Cond.code yX5_bestFor cX5_bestFor 6 (some .int), Cond.fieldLink RX5 9 "Bumpherald$Reviewers" "trusts" "[I", Cond.fieldLink RX5 58 "Bumpherald$Raises" "risks" "[I", Cond.methodLink RX5 54 yX5_loadWithout]
def wsL_close_r5 : List Cond := [Cond.instanceMethod yX5_loadWithout, Cond.selects RX5 yX5_loadWithout yX5_loadWithout, Cond.code yX5_loadWithout cX5_loadWithout 6 (some .int), Cond.methodLink RX5 43 yX5_give, Cond.instanceMethod yX5_give, Cond.selects RX5 yX5_give yX5_give, Cond.code yX5_give cX5_give 3 none, Cond.fieldLink RX5 61 "Bumpherald$Raises" "approved" "[Z"]
def wsL_close : List Cond := .codeWith yL_close cL_close 3 (some .int) [(0, 5, 8, 21), (0, 5, 11, 15)] :: ((wsL_close_r1 ++ (wsL_close_r2 ++ (wsL_close_r3 ++ (wsL_close_r4 ++ wsL_close_r5)))) ++ wsX60 ++ wsX40 ++ wsX20 ++ wsX50 ++ (vx_atS RX6 72 "java/lang/IllegalStateException" ["java/lang/RuntimeException", "java/lang/Exception"]).filter goodWord ++ (vx_atS RX6 220 "java/lang/IndexOutOfBoundsException" ["java/lang/RuntimeException", "java/lang/Exception"]).filter goodWord)
def wsL_pass_r1 : List Cond := [Cond.classLink RL 13 "java/lang/IllegalArgumentException", Cond.classLink RL 15 "java/lang/IllegalStateException", Cond.methodLink RL 49 yX6_pass, Cond.instanceMethod yX6_pass, Cond.selects RX6 yX6_pass yX6_pass, Cond.initialized RX6, Cond.code yX6_pass cX6_pass 3 (some .int), Cond.classLink RX6 58 "java/lang/IllegalArgumentException", Cond.initialized "java/lang/IllegalArgumentException", Cond.classLink RX6 68 "java/lang/IllegalStateException", Cond.initialized "java/lang/IllegalStateException", Cond.fieldLink RX6 50 "Bumpherald" "today" "I", Cond.fieldLink RX6 46 "Bumpherald" "herding" "LBumpherald$Herding;", Cond.methodLink RX6 54 yX6_isWithin, Cond.static yX6_isWithin, Cond.code yX6_isWithin cX6_isWithin 3 (some .boolean), Cond.methodLink RX6 182 yX2_joinSleepers, Cond.instanceMethod yX2_joinSleepers, Cond.selects RX2 yX2_joinSleepers yX2_joinSleepers, Cond.initialized RX2, Cond.code yX2_joinSleepers cX2_joinSleepers 3 none, Cond.fieldLink RX2 19 "Bumpherald$Herding" "raises" "LBumpherald$Raises;", Cond.fieldLink RX2 27 "Bumpherald$Raises" "count" "I", Cond.fieldLink RX2 9 "Bumpherald$Herding" "waiting" "[Z"]
def wsL_pass_r2 : List Cond := [Cond.fieldLink RX2 32 "Bumpherald$Raises" "groups" "[I", Cond.methodLink RX2 36 yX2_sleepsTooLong, Cond.instanceMethod yX2_sleepsTooLong, Cond.selects RX2 yX2_sleepsTooLong yX2_sleepsTooLong, Cond.code yX2_sleepsTooLong cX2_sleepsTooLong 3 (some .boolean), Cond.fieldLink RX2 48 "Bumpherald$Raises" "days" "[I", Cond.fieldLink RX2 15 "Bumpherald$Herding" "patience" "I", Cond.methodLink RX2 51 yX4_groupOf, Cond.instanceMethod yX4_groupOf, Cond.selects RX4 yX4_groupOf yX4_groupOf, Cond.initialized RX4, Cond.code yX4_groupOf cX4_groupOf 4 (some .int), Cond.fieldLink RX4 44 "Bumpherald$Raises" "openCount" "I", Cond.fieldLink RX4 34 "Bumpherald$Raises" "groups" "[I", Cond.fieldLink RX4 37 "Bumpherald$Raises" "open" "[I", Cond.methodLink RX2 54 yX4_failing, Cond.instanceMethod yX4_failing, Cond.selects RX4 yX4_failing yX4_failing, Cond.code yX4_failing cX4_failing 2 (some .int), Cond.fieldLink RX4 47 "Bumpherald$Raises" "packages" "LBumpherald$Packages;", Cond.methodLink RX4 65 yX4_plan, Cond.instanceMethod yX4_plan, Cond.selects RX4 yX4_plan yX4_plan, Cond.code yX4_plan cX4_plan 3 none]
def wsL_pass_r3 : List Cond := [Cond.fieldLink RX4 79 "Bumpherald$Packages" "planned" "[I", Cond.fieldLink RX4 9 "Bumpherald$Raises" "packs" "[I", Cond.fieldLink RX4 15 "Bumpherald$Raises" "versions" "[I", Cond.methodLink RX4 76 yX3_startPlan, Cond.instanceMethod yX3_startPlan, Cond.selects RX3 yX3_startPlan yX3_startPlan, Cond.initialized RX3, Cond.code yX3_startPlan cX3_startPlan 2 none, Cond.fieldLink RX3 30 "Bumpherald$Packages" "count" "I", Cond.fieldLink RX3 15 "Bumpherald$Packages" "planned" "[I", Cond.fieldLink RX3 9 "Bumpherald$Packages" "versions" "[I", Cond.methodLink RX4 54 yX4_isIn, Cond.instanceMethod yX4_isIn, Cond.selects RX4 yX4_isIn yX4_isIn, Cond.code yX4_isIn cX4_isIn 3 (some .boolean), Cond.methodLink RX4 69 yX3_failingInPlan, Cond.instanceMethod yX3_failingInPlan, Cond.selects RX3 yX3_failingInPlan yX3_failingInPlan, Cond.code yX3_failingInPlan cX3_failingInPlan 3 (some .int), Cond.fieldLink RX3 34 "Bumpherald$Packages" "needCount" "I", Cond.methodLink RX3 37 yX3_holdsInPlan, Cond.instanceMethod yX3_holdsInPlan, Cond.selects RX3 yX3_holdsInPlan yX3_holdsInPlan, Cond.code yX3_holdsInPlan cX3_holdsInPlan 3 (some .boolean)]
def wsL_pass_r4 : List Cond := [Cond.fieldLink RX3 21 "Bumpherald$Packages" "needOthers" "[I", Cond.fieldLink RX3 18 "Bumpherald$Packages" "needOnes" "[I", Cond.fieldLink RX3 24 "Bumpherald$Packages" "needLeasts" "[I", Cond.fieldLink RX3 27 "Bumpherald$Packages" "needMosts" "[I", Cond.methodLink RX2 40 yX2_bestPartner, Cond.instanceMethod yX2_bestPartner, Cond.selects RX2 yX2_bestPartner yX2_bestPartner, Cond.code yX2_bestPartner cX2_bestPartner 7 (some .int), Cond.methodLink RX2 44 yX2_join, Cond.instanceMethod yX2_join, Cond.selects RX2 yX2_join yX2_join, Cond.code yX2_join cX2_join 4 none, Cond.fieldLink RX2 23 "Bumpherald$Herding" "reviewers" "LBumpherald$Reviewers;", Cond.methodLink RX2 57 yX4_group, Cond.instanceMethod yX4_group, Cond.selects RX4 yX4_group yX4_group, Cond.code yX4_group cX4_group 4 none, Cond.methodLink RX2 61 yX5_giveAnew, Cond.instanceMethod yX5_giveAnew, Cond.selects RX5 yX5_giveAnew yX5_giveAnew, Cond.initialized RX5, Cond.code yX5_giveAnew cX5_giveAnew 4 none, Cond.fieldLink RX5 15 "Bumpherald$Reviewers" "raises" "LBumpherald$Raises;", Cond.fieldLink RX5 19 "Bumpherald$Raises" "openCount" "I"]
def wsL_pass_r5 : List Cond := [Cond.fieldLink RX5 25 "Bumpherald$Raises" "open" "[I", Cond.methodLink RX5 31 yX4_isIn, Cond.methodLink RX5 35 yX5_hasOwnReviewer, Cond.instanceMethod yX5_hasOwnReviewer, Cond.selects RX5 yX5_hasOwnReviewer yX5_hasOwnReviewer, Cond.code yX5_hasOwnReviewer cX5_hasOwnReviewer 3 (some .boolean), Cond.fieldLink RX5 28 "Bumpherald$Raises" "reviewers" "[I", Cond.methodLink RX5 47 yX5_reviewsAnother, Cond.instanceMethod yX5_reviewsAnother, Cond.selects RX5 yX5_reviewsAnother yX5_reviewsAnother, Cond.code yX5_reviewsAnother cX5_reviewsAnother 6 (some .boolean), Cond.fieldLink RX5 51 "Bumpherald$Raises" "groups" "[I", Cond.methodLink RX5 39 yX5_bestFor, Cond.instanceMethod yX5_bestFor, Cond.selects RX5 yX5_bestFor yX5_bestFor, Cond.code yX5_bestFor cX5_bestFor 6 (some .int), Cond.fieldLink RX5 9 "Bumpherald$Reviewers" "trusts" "[I", Cond.fieldLink RX5 58 "Bumpherald$Raises" "risks" "[I", Cond.methodLink RX5 54 yX5_loadWithout, Cond.instanceMethod yX5_loadWithout, Cond.selects RX5 yX5_loadWithout yX5_loadWithout, Cond.code yX5_loadWithout cX5_loadWithout 6 (some .int), Cond.methodLink RX5 43 yX5_give, Cond.instanceMethod yX5_give]
def wsL_pass_r6 : List Cond := [Cond.selects RX5 yX5_give yX5_give, Cond.code yX5_give cX5_give 3 none, Cond.fieldLink RX5 61 "Bumpherald$Raises" "approved" "[Z"]
def wsL_pass : List Cond := .codeWith yL_pass cL_pass 4 (some .int) [(0, 9, 12, 13), (0, 9, 15, 15)] :: ((wsL_pass_r1 ++ (wsL_pass_r2 ++ (wsL_pass_r3 ++ (wsL_pass_r4 ++ (wsL_pass_r5 ++ wsL_pass_r6))))) ++ wsX60 ++ wsX20 ++ wsX40 ++ wsX30 ++ wsX50 ++ (vx_atS RX6 62 "java/lang/IllegalArgumentException" ["java/lang/RuntimeException", "java/lang/Exception"]).filter goodWord ++ (vx_atS RX6 72 "java/lang/IllegalStateException" ["java/lang/RuntimeException", "java/lang/Exception"]).filter goodWord)
def wsL_version : List Cond := .codeWith yL_version cL_version 4 (some .int) [(0, 9, 12, 21)] :: ([.classLink RL 21 "java/lang/IndexOutOfBoundsException", .methodLink RL 52 yX6_version, .instanceMethod yX6_version, .selects RX6 yX6_version yX6_version, .initialized RX6, .code yX6_version cX6_version 2 (some .int), .fieldLink RX6 10 "Bumpherald" "packages" "LBumpherald$Packages;", .fieldLink RX6 83 "Bumpherald$Packages" "versions" "[I", .methodLink RX6 77 yX6_checkPackage, .instanceMethod yX6_checkPackage, .selects RX6 yX6_checkPackage yX6_checkPackage, .code yX6_checkPackage cX6_checkPackage 2 none, .classLink RX6 216 "java/lang/IndexOutOfBoundsException", .initialized "java/lang/IndexOutOfBoundsException", .fieldLink RX6 65 "Bumpherald$Packages" "count" "I", .methodLink RX6 54 yX6_isWithin, .static yX6_isWithin, .code yX6_isWithin cX6_isWithin 3 (some .boolean)] ++ wsX60 ++ wsX30 ++ (vx_atS RX6 220 "java/lang/IndexOutOfBoundsException" ["java/lang/RuntimeException", "java/lang/Exception"]).filter goodWord)
def wsL_raiseOf_r1 : List Cond := [Cond.classLink RL 21 "java/lang/IndexOutOfBoundsException", Cond.classLink RL 13 "java/lang/IllegalArgumentException", Cond.methodLink RL 55 yX6_raiseOf, Cond.instanceMethod yX6_raiseOf, Cond.selects RX6 yX6_raiseOf yX6_raiseOf, Cond.initialized RX6, Cond.code yX6_raiseOf cX6_raiseOf 3 (some .int), Cond.classLink RX6 58 "java/lang/IllegalArgumentException", Cond.initialized "java/lang/IllegalArgumentException", Cond.fieldLink RX6 28 "Bumpherald" "raises" "LBumpherald$Raises;", Cond.fieldLink RX6 188 "Bumpherald$Raises" "states" "[I", Cond.fieldLink RX6 191 "Bumpherald$Raises" "packs" "[I", Cond.fieldLink RX6 194 "Bumpherald$Raises" "versions" "[I", Cond.fieldLink RX6 143 "Bumpherald$Raises" "reviewers" "[I", Cond.fieldLink RX6 147 "Bumpherald$Raises" "approved" "[Z", Cond.fieldLink RX6 195 "Bumpherald$Raises" "groups" "[I", Cond.methodLink RX6 185 yX6_checkRaise, Cond.instanceMethod yX6_checkRaise, Cond.selects RX6 yX6_checkRaise yX6_checkRaise, Cond.code yX6_checkRaise cX6_checkRaise 2 none, Cond.classLink RX6 216 "java/lang/IndexOutOfBoundsException", Cond.initialized "java/lang/IndexOutOfBoundsException", Cond.fieldLink RX6 129 "Bumpherald$Raises" "count" "I", Cond.methodLink RX6 54 yX6_isWithin]
def wsL_raiseOf_r2 : List Cond := [Cond.static yX6_isWithin, Cond.code yX6_isWithin cX6_isWithin 3 (some .boolean), Cond.methodLink RX6 151 yX4_groupOf, Cond.instanceMethod yX4_groupOf, Cond.selects RX4 yX4_groupOf yX4_groupOf, Cond.initialized RX4, Cond.code yX4_groupOf cX4_groupOf 4 (some .int), Cond.fieldLink RX4 44 "Bumpherald$Raises" "openCount" "I", Cond.fieldLink RX4 34 "Bumpherald$Raises" "groups" "[I", Cond.fieldLink RX4 37 "Bumpherald$Raises" "open" "[I", Cond.methodLink RX6 160 yJ6_bitCount_0f7a4, Cond.static yJ6_bitCount_0f7a4, Cond.initialized RJ6, Cond.code yJ6_bitCount_0f7a4 cJ6_bitCount_0f7a4 1 (some .int), Cond.constant RJ6 265 (1431655765), Cond.constant RJ6 266 (858993459), Cond.constant RJ6 267 (252645135)]
def wsL_raiseOf : List Cond := .codeWith yL_raiseOf cL_raiseOf 5 (some .int) [(0, 10, 13, 21), (0, 10, 17, 13)] :: ((wsL_raiseOf_r1 ++ wsL_raiseOf_r2) ++ wsX60 ++ wsX40 ++ (vx_atS RX6 62 "java/lang/IllegalArgumentException" ["java/lang/RuntimeException", "java/lang/Exception"]).filter goodWord ++ (vx_atS RX6 220 "java/lang/IndexOutOfBoundsException" ["java/lang/RuntimeException", "java/lang/Exception"]).filter goodWord)
def wsL_fails_r1 : List Cond := [Cond.classLink RL 21 "java/lang/IndexOutOfBoundsException", Cond.classLink RL 15 "java/lang/IllegalStateException", Cond.methodLink RL 58 yX6_fails, Cond.instanceMethod yX6_fails, Cond.selects RX6 yX6_fails yX6_fails, Cond.initialized RX6, Cond.code yX6_fails cX6_fails 2 (some .int), Cond.fieldLink RX6 28 "Bumpherald" "raises" "LBumpherald$Raises;", Cond.methodLink RX6 140 yX6_checkOpen, Cond.instanceMethod yX6_checkOpen, Cond.selects RX6 yX6_checkOpen yX6_checkOpen, Cond.code yX6_checkOpen cX6_checkOpen 2 none, Cond.classLink RX6 68 "java/lang/IllegalStateException", Cond.initialized "java/lang/IllegalStateException", Cond.fieldLink RX6 188 "Bumpherald$Raises" "states" "[I", Cond.methodLink RX6 185 yX6_checkRaise, Cond.instanceMethod yX6_checkRaise, Cond.selects RX6 yX6_checkRaise yX6_checkRaise, Cond.code yX6_checkRaise cX6_checkRaise 2 none, Cond.classLink RX6 216 "java/lang/IndexOutOfBoundsException", Cond.initialized "java/lang/IndexOutOfBoundsException", Cond.fieldLink RX6 129 "Bumpherald$Raises" "count" "I", Cond.methodLink RX6 54 yX6_isWithin, Cond.static yX6_isWithin]
def wsL_fails_r2 : List Cond := [Cond.code yX6_isWithin cX6_isWithin 3 (some .boolean), Cond.methodLink RX6 151 yX4_groupOf, Cond.instanceMethod yX4_groupOf, Cond.selects RX4 yX4_groupOf yX4_groupOf, Cond.initialized RX4, Cond.code yX4_groupOf cX4_groupOf 4 (some .int), Cond.fieldLink RX4 44 "Bumpherald$Raises" "openCount" "I", Cond.fieldLink RX4 34 "Bumpherald$Raises" "groups" "[I", Cond.fieldLink RX4 37 "Bumpherald$Raises" "open" "[I", Cond.methodLink RX6 200 yX4_failing, Cond.instanceMethod yX4_failing, Cond.selects RX4 yX4_failing yX4_failing, Cond.code yX4_failing cX4_failing 2 (some .int), Cond.fieldLink RX4 47 "Bumpherald$Raises" "packages" "LBumpherald$Packages;", Cond.methodLink RX4 65 yX4_plan, Cond.instanceMethod yX4_plan, Cond.selects RX4 yX4_plan yX4_plan, Cond.code yX4_plan cX4_plan 3 none, Cond.fieldLink RX4 79 "Bumpherald$Packages" "planned" "[I", Cond.fieldLink RX4 9 "Bumpherald$Raises" "packs" "[I", Cond.fieldLink RX4 15 "Bumpherald$Raises" "versions" "[I", Cond.methodLink RX4 76 yX3_startPlan, Cond.instanceMethod yX3_startPlan, Cond.selects RX3 yX3_startPlan yX3_startPlan]
def wsL_fails_r3 : List Cond := [Cond.initialized RX3, Cond.code yX3_startPlan cX3_startPlan 2 none, Cond.fieldLink RX3 30 "Bumpherald$Packages" "count" "I", Cond.fieldLink RX3 15 "Bumpherald$Packages" "planned" "[I", Cond.fieldLink RX3 9 "Bumpherald$Packages" "versions" "[I", Cond.methodLink RX4 54 yX4_isIn, Cond.instanceMethod yX4_isIn, Cond.selects RX4 yX4_isIn yX4_isIn, Cond.code yX4_isIn cX4_isIn 3 (some .boolean), Cond.methodLink RX4 69 yX3_failingInPlan, Cond.instanceMethod yX3_failingInPlan, Cond.selects RX3 yX3_failingInPlan yX3_failingInPlan, Cond.code yX3_failingInPlan cX3_failingInPlan 3 (some .int), Cond.fieldLink RX3 34 "Bumpherald$Packages" "needCount" "I", Cond.methodLink RX3 37 yX3_holdsInPlan, Cond.instanceMethod yX3_holdsInPlan, Cond.selects RX3 yX3_holdsInPlan yX3_holdsInPlan, Cond.code yX3_holdsInPlan cX3_holdsInPlan 3 (some .boolean), Cond.fieldLink RX3 21 "Bumpherald$Packages" "needOthers" "[I", Cond.fieldLink RX3 18 "Bumpherald$Packages" "needOnes" "[I", Cond.fieldLink RX3 24 "Bumpherald$Packages" "needLeasts" "[I", Cond.fieldLink RX3 27 "Bumpherald$Packages" "needMosts" "[I"]
def wsL_fails : List Cond := .codeWith yL_fails cL_fails 4 (some .int) [(0, 9, 12, 21), (0, 9, 15, 15)] :: ((wsL_fails_r1 ++ (wsL_fails_r2 ++ wsL_fails_r3)) ++ wsX60 ++ wsX40 ++ wsX30 ++ (vx_atS RX6 72 "java/lang/IllegalStateException" ["java/lang/RuntimeException", "java/lang/Exception"]).filter goodWord ++ (vx_atS RX6 220 "java/lang/IndexOutOfBoundsException" ["java/lang/RuntimeException", "java/lang/Exception"]).filter goodWord)
def wsL_canLand_r1 : List Cond := [Cond.classLink RL 21 "java/lang/IndexOutOfBoundsException", Cond.classLink RL 15 "java/lang/IllegalStateException", Cond.methodLink RL 61 yX6_canLand, Cond.instanceMethod yX6_canLand, Cond.selects RX6 yX6_canLand yX6_canLand, Cond.initialized RX6, Cond.code yX6_canLand cX6_canLand 2 (some .boolean), Cond.fieldLink RX6 28 "Bumpherald" "raises" "LBumpherald$Raises;", Cond.methodLink RX6 140 yX6_checkOpen, Cond.instanceMethod yX6_checkOpen, Cond.selects RX6 yX6_checkOpen yX6_checkOpen, Cond.code yX6_checkOpen cX6_checkOpen 2 none, Cond.classLink RX6 68 "java/lang/IllegalStateException", Cond.initialized "java/lang/IllegalStateException", Cond.fieldLink RX6 188 "Bumpherald$Raises" "states" "[I", Cond.methodLink RX6 185 yX6_checkRaise, Cond.instanceMethod yX6_checkRaise, Cond.selects RX6 yX6_checkRaise yX6_checkRaise, Cond.code yX6_checkRaise cX6_checkRaise 2 none, Cond.classLink RX6 216 "java/lang/IndexOutOfBoundsException", Cond.initialized "java/lang/IndexOutOfBoundsException", Cond.fieldLink RX6 129 "Bumpherald$Raises" "count" "I", Cond.methodLink RX6 54 yX6_isWithin, Cond.static yX6_isWithin]
def wsL_canLand_r2 : List Cond := [Cond.code yX6_isWithin cX6_isWithin 3 (some .boolean), Cond.methodLink RX6 151 yX4_groupOf, Cond.instanceMethod yX4_groupOf, Cond.selects RX4 yX4_groupOf yX4_groupOf, Cond.initialized RX4, Cond.code yX4_groupOf cX4_groupOf 4 (some .int), Cond.fieldLink RX4 44 "Bumpherald$Raises" "openCount" "I", Cond.fieldLink RX4 34 "Bumpherald$Raises" "groups" "[I", Cond.fieldLink RX4 37 "Bumpherald$Raises" "open" "[I", Cond.methodLink RX6 154 yX6_isLandable, Cond.instanceMethod yX6_isLandable, Cond.selects RX6 yX6_isLandable yX6_isLandable, Cond.code yX6_isLandable cX6_isLandable 2 (some .boolean), Cond.fieldLink RX6 19 "Bumpherald" "freezes" "LBumpherald$Freezes;", Cond.fieldLink RX6 50 "Bumpherald" "today" "I", Cond.methodLink RX6 200 yX4_failing, Cond.instanceMethod yX4_failing, Cond.selects RX4 yX4_failing yX4_failing, Cond.code yX4_failing cX4_failing 2 (some .int), Cond.fieldLink RX4 47 "Bumpherald$Raises" "packages" "LBumpherald$Packages;", Cond.methodLink RX4 65 yX4_plan, Cond.instanceMethod yX4_plan, Cond.selects RX4 yX4_plan yX4_plan, Cond.code yX4_plan cX4_plan 3 none]
def wsL_canLand_r3 : List Cond := [Cond.fieldLink RX4 79 "Bumpherald$Packages" "planned" "[I", Cond.fieldLink RX4 9 "Bumpherald$Raises" "packs" "[I", Cond.fieldLink RX4 15 "Bumpherald$Raises" "versions" "[I", Cond.methodLink RX4 76 yX3_startPlan, Cond.instanceMethod yX3_startPlan, Cond.selects RX3 yX3_startPlan yX3_startPlan, Cond.initialized RX3, Cond.code yX3_startPlan cX3_startPlan 2 none, Cond.fieldLink RX3 30 "Bumpherald$Packages" "count" "I", Cond.fieldLink RX3 15 "Bumpherald$Packages" "planned" "[I", Cond.fieldLink RX3 9 "Bumpherald$Packages" "versions" "[I", Cond.methodLink RX4 54 yX4_isIn, Cond.instanceMethod yX4_isIn, Cond.selects RX4 yX4_isIn yX4_isIn, Cond.code yX4_isIn cX4_isIn 3 (some .boolean), Cond.methodLink RX4 69 yX3_failingInPlan, Cond.instanceMethod yX3_failingInPlan, Cond.selects RX3 yX3_failingInPlan yX3_failingInPlan, Cond.code yX3_failingInPlan cX3_failingInPlan 3 (some .int), Cond.fieldLink RX3 34 "Bumpherald$Packages" "needCount" "I", Cond.methodLink RX3 37 yX3_holdsInPlan, Cond.instanceMethod yX3_holdsInPlan, Cond.selects RX3 yX3_holdsInPlan yX3_holdsInPlan, Cond.code yX3_holdsInPlan cX3_holdsInPlan 3 (some .boolean)]
def wsL_canLand_r4 : List Cond := [Cond.fieldLink RX3 21 "Bumpherald$Packages" "needOthers" "[I", Cond.fieldLink RX3 18 "Bumpherald$Packages" "needOnes" "[I", Cond.fieldLink RX3 24 "Bumpherald$Packages" "needLeasts" "[I", Cond.fieldLink RX3 27 "Bumpherald$Packages" "needMosts" "[I", Cond.methodLink RX6 229 yX4_areApproved, Cond.instanceMethod yX4_areApproved, Cond.selects RX4 yX4_areApproved yX4_areApproved, Cond.code yX4_areApproved cX4_areApproved 3 (some .boolean), Cond.fieldLink RX4 30 "Bumpherald$Raises" "approved" "[Z", Cond.methodLink RX6 232 yX4_packagesOf, Cond.instanceMethod yX4_packagesOf, Cond.selects RX4 yX4_packagesOf yX4_packagesOf, Cond.code yX4_packagesOf cX4_packagesOf 4 (some .int), Cond.methodLink RX6 235 yX1_isFrozen, Cond.instanceMethod yX1_isFrozen, Cond.selects RX1 yX1_isFrozen yX1_isFrozen, Cond.initialized RX1, Cond.code yX1_isFrozen cX1_isFrozen 4 (some .boolean), Cond.fieldLink RX1 21 "Bumpherald$Freezes" "count" "I", Cond.fieldLink RX1 9 "Bumpherald$Freezes" "sets" "[I", Cond.fieldLink RX1 15 "Bumpherald$Freezes" "firstDays" "[I", Cond.fieldLink RX1 18 "Bumpherald$Freezes" "lastDays" "[I"]
def wsL_canLand : List Cond := .codeWith yL_canLand cL_canLand 4 (some .int) [(0, 16, 19, 21), (0, 16, 22, 15)] :: ((wsL_canLand_r1 ++ (wsL_canLand_r2 ++ (wsL_canLand_r3 ++ wsL_canLand_r4))) ++ wsX60 ++ wsX40 ++ wsX30 ++ wsX10 ++ (vx_atS RX6 72 "java/lang/IllegalStateException" ["java/lang/RuntimeException", "java/lang/Exception"]).filter goodWord ++ (vx_atS RX6 220 "java/lang/IndexOutOfBoundsException" ["java/lang/RuntimeException", "java/lang/Exception"]).filter goodWord)
def wsL_load_r1 : List Cond := [Cond.classLink RL 21 "java/lang/IndexOutOfBoundsException", Cond.methodLink RL 64 yX6_load, Cond.instanceMethod yX6_load, Cond.selects RX6 yX6_load yX6_load, Cond.initialized RX6, Cond.code yX6_load cX6_load 2 (some .int), Cond.fieldLink RX6 37 "Bumpherald" "reviewers" "LBumpherald$Reviewers;", Cond.methodLink RX6 98 yX6_checkReviewer, Cond.instanceMethod yX6_checkReviewer, Cond.selects RX6 yX6_checkReviewer yX6_checkReviewer, Cond.code yX6_checkReviewer cX6_checkReviewer 2 none, Cond.classLink RX6 216 "java/lang/IndexOutOfBoundsException", Cond.initialized "java/lang/IndexOutOfBoundsException", Cond.methodLink RX6 54 yX6_isWithin, Cond.static yX6_isWithin, Cond.code yX6_isWithin cX6_isWithin 3 (some .boolean), Cond.methodLink RX6 203 yX5_loadWithout, Cond.instanceMethod yX5_loadWithout, Cond.selects RX5 yX5_loadWithout yX5_loadWithout, Cond.initialized RX5, Cond.code yX5_loadWithout cX5_loadWithout 6 (some .int), Cond.fieldLink RX5 15 "Bumpherald$Reviewers" "raises" "LBumpherald$Raises;", Cond.fieldLink RX5 19 "Bumpherald$Raises" "openCount" "I", Cond.fieldLink RX5 25 "Bumpherald$Raises" "open" "[I"]
def wsL_load_r2 : List Cond := [Cond.fieldLink RX5 28 "Bumpherald$Raises" "reviewers" "[I"]
def wsL_load : List Cond := .codeWith yL_load cL_load 4 (some .int) [(0, 9, 12, 21)] :: ((wsL_load_r1 ++ wsL_load_r2) ++ wsX60 ++ wsX50 ++ wsX40 ++ (vx_atS RX6 220 "java/lang/IndexOutOfBoundsException" ["java/lang/RuntimeException", "java/lang/Exception"]).filter goodWord)
def wsL_fewest_r1 : List Cond := [Cond.classLink RL 21 "java/lang/IndexOutOfBoundsException", Cond.classLink RL 15 "java/lang/IllegalStateException", Cond.methodLink RL 67 yX6_fewest, Cond.instanceMethod yX6_fewest, Cond.selects RX6 yX6_fewest yX6_fewest, Cond.initialized RX6, Cond.code yX6_fewest cX6_fewest 2 (some .int), Cond.fieldLink RX6 28 "Bumpherald" "raises" "LBumpherald$Raises;", Cond.methodLink RX6 140 yX6_checkOpen, Cond.instanceMethod yX6_checkOpen, Cond.selects RX6 yX6_checkOpen yX6_checkOpen, Cond.code yX6_checkOpen cX6_checkOpen 2 none, Cond.classLink RX6 68 "java/lang/IllegalStateException", Cond.initialized "java/lang/IllegalStateException", Cond.fieldLink RX6 188 "Bumpherald$Raises" "states" "[I", Cond.methodLink RX6 185 yX6_checkRaise, Cond.instanceMethod yX6_checkRaise, Cond.selects RX6 yX6_checkRaise yX6_checkRaise, Cond.code yX6_checkRaise cX6_checkRaise 2 none, Cond.classLink RX6 216 "java/lang/IndexOutOfBoundsException", Cond.initialized "java/lang/IndexOutOfBoundsException", Cond.fieldLink RX6 129 "Bumpherald$Raises" "count" "I", Cond.methodLink RX6 54 yX6_isWithin, Cond.static yX6_isWithin]
def wsL_fewest_r2 : List Cond := [Cond.code yX6_isWithin cX6_isWithin 3 (some .boolean), Cond.methodLink RX6 134 yX4_bitOf, Cond.instanceMethod yX4_bitOf, Cond.selects RX4 yX4_bitOf yX4_bitOf, Cond.initialized RX4, Cond.code yX4_bitOf cX4_bitOf 3 (some .int), Cond.fieldLink RX4 44 "Bumpherald$Raises" "openCount" "I", Cond.fieldLink RX4 37 "Bumpherald$Raises" "open" "[I", Cond.methodLink RX6 207 yX0_byNeeds, Cond.static yX0_byNeeds, Cond.initialized RX0, Cond.code yX0_byNeeds cX0_byNeeds 6 (some .int), Cond.fieldLink RX0 15 "Bumpherald$Raises" "packages" "LBumpherald$Packages;", Cond.fieldLink RX0 19 "Bumpherald$Packages" "needOnes" "[I", Cond.fieldLink RX0 28 "Bumpherald$Packages" "needOthers" "[I", Cond.methodLink RX0 9 yX4_firstFailing, Cond.instanceMethod yX4_firstFailing, Cond.selects RX4 yX4_firstFailing yX4_firstFailing, Cond.code yX4_firstFailing cX4_firstFailing 2 (some .int), Cond.fieldLink RX4 47 "Bumpherald$Raises" "packages" "LBumpherald$Packages;", Cond.methodLink RX4 65 yX4_plan, Cond.instanceMethod yX4_plan, Cond.selects RX4 yX4_plan yX4_plan, Cond.code yX4_plan cX4_plan 3 none]
def wsL_fewest_r3 : List Cond := [Cond.fieldLink RX4 79 "Bumpherald$Packages" "planned" "[I", Cond.fieldLink RX4 9 "Bumpherald$Raises" "packs" "[I", Cond.fieldLink RX4 15 "Bumpherald$Raises" "versions" "[I", Cond.methodLink RX4 76 yX3_startPlan, Cond.instanceMethod yX3_startPlan, Cond.selects RX3 yX3_startPlan yX3_startPlan, Cond.initialized RX3, Cond.code yX3_startPlan cX3_startPlan 2 none, Cond.fieldLink RX3 30 "Bumpherald$Packages" "count" "I", Cond.fieldLink RX3 15 "Bumpherald$Packages" "planned" "[I", Cond.fieldLink RX3 9 "Bumpherald$Packages" "versions" "[I", Cond.methodLink RX4 54 yX4_isIn, Cond.instanceMethod yX4_isIn, Cond.selects RX4 yX4_isIn yX4_isIn, Cond.code yX4_isIn cX4_isIn 3 (some .boolean), Cond.methodLink RX4 73 yX3_firstFailingInPlan, Cond.instanceMethod yX3_firstFailingInPlan, Cond.selects RX3 yX3_firstFailingInPlan yX3_firstFailingInPlan, Cond.code yX3_firstFailingInPlan cX3_firstFailingInPlan 2 (some .int), Cond.fieldLink RX3 34 "Bumpherald$Packages" "needCount" "I", Cond.methodLink RX3 37 yX3_holdsInPlan, Cond.instanceMethod yX3_holdsInPlan, Cond.selects RX3 yX3_holdsInPlan yX3_holdsInPlan, Cond.code yX3_holdsInPlan cX3_holdsInPlan 3 (some .boolean)]
def wsL_fewest_r4 : List Cond := [Cond.fieldLink RX3 21 "Bumpherald$Packages" "needOthers" "[I", Cond.fieldLink RX3 18 "Bumpherald$Packages" "needOnes" "[I", Cond.fieldLink RX3 24 "Bumpherald$Packages" "needLeasts" "[I", Cond.fieldLink RX3 27 "Bumpherald$Packages" "needMosts" "[I", Cond.methodLink RX0 25 yX4_bitOfPackage, Cond.instanceMethod yX4_bitOfPackage, Cond.selects RX4 yX4_bitOfPackage yX4_bitOfPackage, Cond.code yX4_bitOfPackage cX4_bitOfPackage 3 (some .int)]
def wsL_fewest : List Cond := .codeWith yL_fewest cL_fewest 4 (some .int) [(0, 9, 12, 21), (0, 9, 15, 15)] :: ((wsL_fewest_r1 ++ (wsL_fewest_r2 ++ (wsL_fewest_r3 ++ wsL_fewest_r4))) ++ wsX60 ++ wsX40 ++ wsX30 ++ (vx_atS RX6 72 "java/lang/IllegalStateException" ["java/lang/RuntimeException", "java/lang/Exception"]).filter goodWord ++ (vx_atS RX6 220 "java/lang/IndexOutOfBoundsException" ["java/lang/RuntimeException", "java/lang/Exception"]).filter goodWord)
def wsL_fewestAnew_r1 : List Cond := [Cond.classLink RL 21 "java/lang/IndexOutOfBoundsException", Cond.classLink RL 15 "java/lang/IllegalStateException", Cond.methodLink RL 70 yX6_fewestAnew, Cond.instanceMethod yX6_fewestAnew, Cond.selects RX6 yX6_fewestAnew yX6_fewestAnew, Cond.initialized RX6, Cond.code yX6_fewestAnew cX6_fewestAnew 2 (some .int), Cond.fieldLink RX6 28 "Bumpherald" "raises" "LBumpherald$Raises;", Cond.methodLink RX6 140 yX6_checkOpen, Cond.instanceMethod yX6_checkOpen, Cond.selects RX6 yX6_checkOpen yX6_checkOpen, Cond.code yX6_checkOpen cX6_checkOpen 2 none, Cond.classLink RX6 68 "java/lang/IllegalStateException", Cond.initialized "java/lang/IllegalStateException", Cond.fieldLink RX6 188 "Bumpherald$Raises" "states" "[I", Cond.methodLink RX6 185 yX6_checkRaise, Cond.instanceMethod yX6_checkRaise, Cond.selects RX6 yX6_checkRaise yX6_checkRaise, Cond.code yX6_checkRaise cX6_checkRaise 2 none, Cond.classLink RX6 216 "java/lang/IndexOutOfBoundsException", Cond.initialized "java/lang/IndexOutOfBoundsException", Cond.fieldLink RX6 129 "Bumpherald$Raises" "count" "I", Cond.methodLink RX6 54 yX6_isWithin, Cond.static yX6_isWithin]
def wsL_fewestAnew_r2 : List Cond := [Cond.code yX6_isWithin cX6_isWithin 3 (some .boolean), Cond.methodLink RX6 134 yX4_bitOf, Cond.instanceMethod yX4_bitOf, Cond.selects RX4 yX4_bitOf yX4_bitOf, Cond.initialized RX4, Cond.code yX4_bitOf cX4_bitOf 3 (some .int), Cond.fieldLink RX4 44 "Bumpherald$Raises" "openCount" "I", Cond.fieldLink RX4 37 "Bumpherald$Raises" "open" "[I", Cond.methodLink RX6 213 yX0_byAllSets, Cond.static yX0_byAllSets, Cond.initialized RX0, Cond.code yX0_byAllSets cX0_byAllSets 5 (some .int), Cond.fieldLink RX0 31 "Bumpherald$Raises" "openCount" "I", Cond.methodLink RX0 35 yJ6_bitCount_0f7a4, Cond.static yJ6_bitCount_0f7a4, Cond.initialized RJ6, Cond.code yJ6_bitCount_0f7a4 cJ6_bitCount_0f7a4 1 (some .int), Cond.constant RJ6 265 (1431655765), Cond.constant RJ6 266 (858993459), Cond.constant RJ6 267 (252645135), Cond.methodLink RX0 40 yX4_failing, Cond.instanceMethod yX4_failing, Cond.selects RX4 yX4_failing yX4_failing, Cond.code yX4_failing cX4_failing 2 (some .int)]
def wsL_fewestAnew_r3 : List Cond := [Cond.fieldLink RX4 47 "Bumpherald$Raises" "packages" "LBumpherald$Packages;", Cond.methodLink RX4 65 yX4_plan, Cond.instanceMethod yX4_plan, Cond.selects RX4 yX4_plan yX4_plan, Cond.code yX4_plan cX4_plan 3 none, Cond.fieldLink RX4 79 "Bumpherald$Packages" "planned" "[I", Cond.fieldLink RX4 9 "Bumpherald$Raises" "packs" "[I", Cond.fieldLink RX4 15 "Bumpherald$Raises" "versions" "[I", Cond.methodLink RX4 76 yX3_startPlan, Cond.instanceMethod yX3_startPlan, Cond.selects RX3 yX3_startPlan yX3_startPlan, Cond.initialized RX3, Cond.code yX3_startPlan cX3_startPlan 2 none, Cond.fieldLink RX3 30 "Bumpherald$Packages" "count" "I", Cond.fieldLink RX3 15 "Bumpherald$Packages" "planned" "[I", Cond.fieldLink RX3 9 "Bumpherald$Packages" "versions" "[I", Cond.methodLink RX4 54 yX4_isIn, Cond.instanceMethod yX4_isIn, Cond.selects RX4 yX4_isIn yX4_isIn, Cond.code yX4_isIn cX4_isIn 3 (some .boolean), Cond.methodLink RX4 69 yX3_failingInPlan, Cond.instanceMethod yX3_failingInPlan, Cond.selects RX3 yX3_failingInPlan yX3_failingInPlan, Cond.code yX3_failingInPlan cX3_failingInPlan 3 (some .int)]
def wsL_fewestAnew_r4 : List Cond := [Cond.fieldLink RX3 34 "Bumpherald$Packages" "needCount" "I", Cond.methodLink RX3 37 yX3_holdsInPlan, Cond.instanceMethod yX3_holdsInPlan, Cond.selects RX3 yX3_holdsInPlan yX3_holdsInPlan, Cond.code yX3_holdsInPlan cX3_holdsInPlan 3 (some .boolean), Cond.fieldLink RX3 21 "Bumpherald$Packages" "needOthers" "[I", Cond.fieldLink RX3 18 "Bumpherald$Packages" "needOnes" "[I", Cond.fieldLink RX3 24 "Bumpherald$Packages" "needLeasts" "[I", Cond.fieldLink RX3 27 "Bumpherald$Packages" "needMosts" "[I"]
def wsL_fewestAnew : List Cond := .codeWith yL_fewestAnew cL_fewestAnew 4 (some .int) [(0, 9, 12, 21), (0, 9, 15, 15)] :: ((wsL_fewestAnew_r1 ++ (wsL_fewestAnew_r2 ++ (wsL_fewestAnew_r3 ++ wsL_fewestAnew_r4))) ++ wsX60 ++ wsX40 ++ wsX30 ++ (vx_atS RX6 72 "java/lang/IllegalStateException" ["java/lang/RuntimeException", "java/lang/Exception"]).filter goodWord ++ (vx_atS RX6 220 "java/lang/IndexOutOfBoundsException" ["java/lang/RuntimeException", "java/lang/Exception"]).filter goodWord)
def wsL_told_r1 : List Cond := [Cond.classLink RL 21 "java/lang/IndexOutOfBoundsException", Cond.classLink RL 15 "java/lang/IllegalStateException", Cond.methodLink RL 73 yX6_told, Cond.instanceMethod yX6_told, Cond.selects RX6 yX6_told yX6_told, Cond.initialized RX6, Cond.code yX6_told cX6_told 4 (some .char), Cond.classLink RX6 216 "java/lang/IndexOutOfBoundsException", Cond.initialized "java/lang/IndexOutOfBoundsException", Cond.fieldLink RX6 28 "Bumpherald" "raises" "LBumpherald$Raises;", Cond.fieldLink RX6 191 "Bumpherald$Raises" "packs" "[I", Cond.fieldLink RX6 194 "Bumpherald$Raises" "versions" "[I", Cond.methodLink RX6 140 yX6_checkOpen, Cond.instanceMethod yX6_checkOpen, Cond.selects RX6 yX6_checkOpen yX6_checkOpen, Cond.code yX6_checkOpen cX6_checkOpen 2 none, Cond.classLink RX6 68 "java/lang/IllegalStateException", Cond.initialized "java/lang/IllegalStateException", Cond.fieldLink RX6 188 "Bumpherald$Raises" "states" "[I", Cond.methodLink RX6 185 yX6_checkRaise, Cond.instanceMethod yX6_checkRaise, Cond.selects RX6 yX6_checkRaise yX6_checkRaise, Cond.code yX6_checkRaise cX6_checkRaise 2 none, Cond.fieldLink RX6 129 "Bumpherald$Raises" "count" "I"]
def wsL_told_r2 : List Cond := [Cond.methodLink RX6 54 yX6_isWithin, Cond.static yX6_isWithin, Cond.code yX6_isWithin cX6_isWithin 3 (some .boolean), Cond.methodLink RX6 151 yX4_groupOf, Cond.instanceMethod yX4_groupOf, Cond.selects RX4 yX4_groupOf yX4_groupOf, Cond.initialized RX4, Cond.code yX4_groupOf cX4_groupOf 4 (some .int), Cond.fieldLink RX4 44 "Bumpherald$Raises" "openCount" "I", Cond.fieldLink RX4 34 "Bumpherald$Raises" "groups" "[I", Cond.fieldLink RX4 37 "Bumpherald$Raises" "open" "[I", Cond.methodLink RX6 160 yJ6_bitCount_0f7a4, Cond.static yJ6_bitCount_0f7a4, Cond.initialized RJ6, Cond.code yJ6_bitCount_0f7a4 cJ6_bitCount_0f7a4 1 (some .int), Cond.constant RJ6 265 (1431655765), Cond.constant RJ6 266 (858993459), Cond.constant RJ6 267 (252645135)]
def wsL_told : List Cond := .codeWith yL_told cL_told 5 (some .int) [(0, 10, 13, 21), (0, 10, 17, 15)] :: ((wsL_told_r1 ++ wsL_told_r2) ++ wsX60 ++ wsX40 ++ (vx_atS RX6 220 "java/lang/IndexOutOfBoundsException" ["java/lang/RuntimeException", "java/lang/Exception"]).filter goodWord ++ (vx_atS RX6 72 "java/lang/IllegalStateException" ["java/lang/RuntimeException", "java/lang/Exception"]).filter goodWord)
def wsL_law0_r1 : List Cond := [Cond.classLink RL 8 RX6, Cond.instantiable RX6 6, Cond.initialized RX6, Cond.classLink RL 78 RX7, Cond.instantiable RX7 25, Cond.initialized RX7, Cond.arrayClass .long, Cond.methodLink RL 77 yX6_init, Cond.instanceMethod yX6_init, Cond.code yX6_init cX6_init 1 none, Cond.methodLink RX6 1 objectInit, Cond.instanceMethod objectInit, Cond.code objectInit ⟨#[0xb1]⟩ 1 none, Cond.classLink RX6 7 RX3, Cond.instantiable RX3 8, Cond.initialized RX3, Cond.fieldLink RX6 10 "Bumpherald" "packages" "LBumpherald$Packages;", Cond.classLink RX6 16 RX1, Cond.instantiable RX1 4, Cond.initialized RX1, Cond.fieldLink RX6 19 "Bumpherald" "freezes" "LBumpherald$Freezes;", Cond.classLink RX6 23 RX4, Cond.instantiable RX4 12, Cond.initialized RX4]
def wsL_law0_r2 : List Cond := [Cond.fieldLink RX6 28 "Bumpherald" "raises" "LBumpherald$Raises;", Cond.classLink RX6 32 RX5, Cond.instantiable RX5 2, Cond.initialized RX5, Cond.fieldLink RX6 37 "Bumpherald" "reviewers" "LBumpherald$Reviewers;", Cond.classLink RX6 41 RX2, Cond.instantiable RX2 4, Cond.initialized RX2, Cond.fieldLink RX6 46 "Bumpherald" "herding" "LBumpherald$Herding;", Cond.fieldLink RX6 50 "Bumpherald" "today" "I", Cond.instanceMethod yX3_init, Cond.code yX3_init cX3_init 1 none, Cond.methodLink RX3 3 objectInit, Cond.arrayClass .int, Cond.fieldLink RX3 9 "Bumpherald$Packages" "versions" "[I", Cond.fieldLink RX3 15 "Bumpherald$Packages" "planned" "[I", Cond.fieldLink RX3 18 "Bumpherald$Packages" "needOnes" "[I", Cond.fieldLink RX3 21 "Bumpherald$Packages" "needOthers" "[I", Cond.fieldLink RX3 24 "Bumpherald$Packages" "needLeasts" "[I", Cond.fieldLink RX3 27 "Bumpherald$Packages" "needMosts" "[I", Cond.fieldLink RX3 30 "Bumpherald$Packages" "count" "I", Cond.fieldLink RX3 34 "Bumpherald$Packages" "needCount" "I", Cond.instanceMethod yX1_init, Cond.code yX1_init cX1_init 1 none]
def wsL_law0_r3 : List Cond := [Cond.methodLink RX1 3 objectInit, Cond.fieldLink RX1 9 "Bumpherald$Freezes" "sets" "[I", Cond.fieldLink RX1 15 "Bumpherald$Freezes" "firstDays" "[I", Cond.fieldLink RX1 18 "Bumpherald$Freezes" "lastDays" "[I", Cond.fieldLink RX1 21 "Bumpherald$Freezes" "count" "I", Cond.methodLink RX6 25 yX4_init, Cond.instanceMethod yX4_init, Cond.code yX4_init cX4_init 2 none, Cond.methodLink RX4 3 objectInit, Cond.fieldLink RX4 9 "Bumpherald$Raises" "packs" "[I", Cond.fieldLink RX4 15 "Bumpherald$Raises" "versions" "[I", Cond.fieldLink RX4 18 "Bumpherald$Raises" "risks" "[I", Cond.fieldLink RX4 21 "Bumpherald$Raises" "days" "[I", Cond.fieldLink RX4 24 "Bumpherald$Raises" "states" "[I", Cond.fieldLink RX4 27 "Bumpherald$Raises" "reviewers" "[I", Cond.arrayClass .boolean, Cond.fieldLink RX4 30 "Bumpherald$Raises" "approved" "[Z", Cond.fieldLink RX4 34 "Bumpherald$Raises" "groups" "[I", Cond.fieldLink RX4 37 "Bumpherald$Raises" "open" "[I", Cond.fieldLink RX4 40 "Bumpherald$Raises" "count" "I", Cond.fieldLink RX4 44 "Bumpherald$Raises" "openCount" "I", Cond.fieldLink RX4 47 "Bumpherald$Raises" "packages" "LBumpherald$Packages;", Cond.methodLink RX6 34 yX5_init, Cond.instanceMethod yX5_init]
def wsL_law0_r4 : List Cond := [Cond.code yX5_init cX5_init 3 none, Cond.methodLink RX5 3 objectInit, Cond.fieldLink RX5 9 "Bumpherald$Reviewers" "trusts" "[I", Cond.fieldLink RX5 15 "Bumpherald$Reviewers" "raises" "LBumpherald$Raises;", Cond.methodLink RX6 43 yX2_init, Cond.instanceMethod yX2_init, Cond.code yX2_init cX2_init 3 none, Cond.methodLink RX2 3 objectInit, Cond.fieldLink RX2 9 "Bumpherald$Herding" "waiting" "[Z", Cond.fieldLink RX2 15 "Bumpherald$Herding" "patience" "I", Cond.fieldLink RX2 19 "Bumpherald$Herding" "raises" "LBumpherald$Raises;", Cond.fieldLink RX2 23 "Bumpherald$Herding" "reviewers" "LBumpherald$Reviewers;", Cond.methodLink RL 80 yX7_init, Cond.instanceMethod yX7_init, Cond.code yX7_init cX7_init 2 none, Cond.methodLink RX7 1 objectInit, Cond.fieldLink RX7 7 "BumpheraldModel" "version" "[I", Cond.fieldLink RX7 13 "BumpheraldModel" "needing" "[I", Cond.fieldLink RX7 16 "BumpheraldModel" "needed" "[I", Cond.fieldLink RX7 19 "BumpheraldModel" "least" "[I", Cond.fieldLink RX7 22 "BumpheraldModel" "most" "[I", Cond.fieldLink RX7 25 "BumpheraldModel" "trusts" "[I", Cond.fieldLink RX7 28 "BumpheraldModel" "patience" "I", Cond.fieldLink RX7 32 "BumpheraldModel" "frozen" "[I"]
def wsL_law0_r5 : List Cond := [Cond.fieldLink RX7 35 "BumpheraldModel" "from" "[I", Cond.fieldLink RX7 38 "BumpheraldModel" "to" "[I", Cond.fieldLink RX7 41 "BumpheraldModel" "state" "[I", Cond.fieldLink RX7 44 "BumpheraldModel" "pack" "[I", Cond.fieldLink RX7 47 "BumpheraldModel" "target" "[I", Cond.fieldLink RX7 50 "BumpheraldModel" "risk" "[I", Cond.fieldLink RX7 53 "BumpheraldModel" "made" "[I", Cond.fieldLink RX7 56 "BumpheraldModel" "group" "[I", Cond.fieldLink RX7 59 "BumpheraldModel" "reviewer" "[I", Cond.fieldLink RX7 62 "BumpheraldModel" "isApproved" "[Z", Cond.fieldLink RX7 66 "BumpheraldModel" "would" "[I", Cond.methodLink RL 81 yL_pack, Cond.static yL_pack, Cond.initialized RL, Cond.codeWith yL_pack cL_pack 4 (some .int) [(0, 9, 12, 13), (0, 9, 15, 15)], Cond.classLink RL 13 "java/lang/IllegalArgumentException", Cond.classLink RL 15 "java/lang/IllegalStateException", Cond.methodLink RL 7 yX6_pack, Cond.instanceMethod yX6_pack, Cond.selects RX6 yX6_pack yX6_pack, Cond.code yX6_pack cX6_pack 2 (some .int), Cond.classLink RX6 58 "java/lang/IllegalArgumentException", Cond.initialized "java/lang/IllegalArgumentException", Cond.classLink RX6 68 "java/lang/IllegalStateException"]
def wsL_law0_r6 : List Cond := [Cond.initialized "java/lang/IllegalStateException", Cond.fieldLink RX6 65 "Bumpherald$Packages" "count" "I", Cond.methodLink RX6 54 yX6_isWithin, Cond.static yX6_isWithin, Cond.code yX6_isWithin cX6_isWithin 3 (some .boolean), Cond.methodLink RX6 73 yX3_add, Cond.instanceMethod yX3_add, Cond.selects RX3 yX3_add yX3_add, Cond.code yX3_add cX3_add 2 (some .int), Cond.methodLink RL 86 yX7_pack, Cond.instanceMethod yX7_pack, Cond.selects RX7 yX7_pack yX7_pack, Cond.code yX7_pack cX7_pack 2 (some .int), Cond.fieldLink RX7 72 "BumpheraldModel" "packs" "I", Cond.methodLink RX7 75 yX7_in, Cond.static yX7_in, Cond.code yX7_in cX7_in 3 (some .boolean), Cond.methodLink RX7 86 yX7_refused, Cond.instanceMethod yX7_refused, Cond.selects RX7 yX7_refused yX7_refused, Cond.code yX7_refused cX7_refused 2 (some .boolean), Cond.fieldLink RX7 69 "BumpheraldModel" "thrown" "I", Cond.methodLink RL 87 yX7_thrown, Cond.instanceMethod yX7_thrown]
def wsL_law0_r7 : List Cond := [Cond.selects RX7 yX7_thrown yX7_thrown, Cond.code yX7_thrown cX7_thrown 1 (some .int), Cond.methodLink RL 91 yL_need, Cond.static yL_need, Cond.codeWith yL_need cL_need 7 (some .int) [(0, 14, 17, 21), (0, 14, 21, 13), (0, 14, 25, 15)], Cond.classLink RL 21 "java/lang/IndexOutOfBoundsException", Cond.methodLink RL 17 yX6_need, Cond.instanceMethod yX6_need, Cond.selects RX6 yX6_need yX6_need, Cond.code yX6_need cX6_need 5 (some .int), Cond.fieldLink RX6 83 "Bumpherald$Packages" "versions" "[I", Cond.fieldLink RX6 89 "Bumpherald$Packages" "needCount" "I", Cond.methodLink RX6 77 yX6_checkPackage, Cond.instanceMethod yX6_checkPackage, Cond.selects RX6 yX6_checkPackage yX6_checkPackage, Cond.code yX6_checkPackage cX6_checkPackage 2 none, Cond.classLink RX6 216 "java/lang/IndexOutOfBoundsException", Cond.initialized "java/lang/IndexOutOfBoundsException", Cond.methodLink RX6 94 yX3_addNeed, Cond.instanceMethod yX3_addNeed, Cond.selects RX3 yX3_addNeed yX3_addNeed, Cond.code yX3_addNeed cX3_addNeed 5 (some .int), Cond.methodLink RL 94 yX7_need, Cond.instanceMethod yX7_need]
def wsL_law0_r8 : List Cond := [Cond.selects RX7 yX7_need yX7_need, Cond.code yX7_need cX7_need 7 (some .int), Cond.fieldLink RX7 92 "BumpheraldModel" "needs" "I", Cond.methodLink RX7 89 yX7_isPack, Cond.instanceMethod yX7_isPack, Cond.selects RX7 yX7_isPack yX7_isPack, Cond.code yX7_isPack cX7_isPack 2 (some .boolean), Cond.methodLink RL 95 yL_trust, Cond.static yL_trust, Cond.codeWith yL_trust cL_trust 5 (some .int) [(0, 10, 13, 21), (0, 10, 17, 13)], Cond.methodLink RL 23 yX6_trust, Cond.instanceMethod yX6_trust, Cond.selects RX6 yX6_trust yX6_trust, Cond.code yX6_trust cX6_trust 4 (some .int), Cond.fieldLink RX6 103 "Bumpherald$Reviewers" "trusts" "[I", Cond.methodLink RX6 98 yX6_checkReviewer, Cond.instanceMethod yX6_checkReviewer, Cond.selects RX6 yX6_checkReviewer yX6_checkReviewer, Cond.code yX6_checkReviewer cX6_checkReviewer 2 none, Cond.methodLink RL 98 yX7_trust, Cond.instanceMethod yX7_trust, Cond.selects RX7 yX7_trust yX7_trust, Cond.code yX7_trust cX7_trust 4 (some .int), Cond.methodLink RX7 95 yX7_isReviewer]
def wsL_law0_r9 : List Cond := [Cond.static yX7_isReviewer, Cond.code yX7_isReviewer cX7_isReviewer 1 (some .boolean), Cond.methodLink RL 99 yL_patience, Cond.static yL_patience, Cond.codeWith yL_patience cL_patience 4 (some .int) [(0, 9, 12, 13)], Cond.methodLink RL 27 yX6_patience, Cond.instanceMethod yX6_patience, Cond.selects RX6 yX6_patience yX6_patience, Cond.code yX6_patience cX6_patience 3 (some .int), Cond.fieldLink RX6 108 "Bumpherald$Herding" "patience" "I", Cond.methodLink RL 101 yX7_patience, Cond.instanceMethod yX7_patience, Cond.selects RX7 yX7_patience yX7_patience, Cond.code yX7_patience cX7_patience 3 (some .int), Cond.methodLink RL 102 yL_freeze, Cond.static yL_freeze, Cond.codeWith yL_freeze cL_freeze 6 (some .int) [(0, 12, 15, 13), (0, 12, 19, 15)], Cond.methodLink RL 30 yX6_freeze, Cond.instanceMethod yX6_freeze, Cond.selects RX6 yX6_freeze yX6_freeze, Cond.code yX6_freeze cX6_freeze 4 (some .int), Cond.fieldLink RX6 113 "Bumpherald$Freezes" "count" "I", Cond.methodLink RX6 116 yX1_add, Cond.instanceMethod yX1_add]
def wsL_law0_r10 : List Cond := [Cond.selects RX1 yX1_add yX1_add, Cond.code yX1_add cX1_add 4 (some .int), Cond.methodLink RL 105 yX7_freeze, Cond.instanceMethod yX7_freeze, Cond.selects RX7 yX7_freeze yX7_freeze, Cond.code yX7_freeze cX7_freeze 5 (some .int), Cond.fieldLink RX7 98 "BumpheraldModel" "freezes" "I", Cond.methodLink RL 106 yL_raise, Cond.static yL_raise, Cond.codeWith yL_raise cL_raise 6 (some .int) [(0, 12, 15, 21), (0, 12, 19, 13), (0, 12, 23, 15)], Cond.methodLink RL 34 yX6_raise, Cond.instanceMethod yX6_raise, Cond.selects RX6 yX6_raise yX6_raise, Cond.code yX6_raise cX6_raise 5 (some .int), Cond.fieldLink RX6 126 "Bumpherald$Raises" "openCount" "I", Cond.fieldLink RX6 129 "Bumpherald$Raises" "count" "I", Cond.methodLink RX6 123 yX4_bitOfPackage, Cond.instanceMethod yX4_bitOfPackage, Cond.selects RX4 yX4_bitOfPackage yX4_bitOfPackage, Cond.code yX4_bitOfPackage cX4_bitOfPackage 3 (some .int), Cond.methodLink RX6 132 yX4_add, Cond.instanceMethod yX4_add, Cond.selects RX4 yX4_add yX4_add, Cond.code yX4_add cX4_add 6 (some .int)]
def wsL_law0_r11 : List Cond := [Cond.methodLink RX4 51 yX4_listOpen, Cond.instanceMethod yX4_listOpen, Cond.selects RX4 yX4_listOpen yX4_listOpen, Cond.code yX4_listOpen cX4_listOpen 2 none, Cond.methodLink RX6 134 yX4_bitOf, Cond.instanceMethod yX4_bitOf, Cond.selects RX4 yX4_bitOf yX4_bitOf, Cond.code yX4_bitOf cX4_bitOf 3 (some .int), Cond.methodLink RX6 137 yX5_giveAnew, Cond.instanceMethod yX5_giveAnew, Cond.selects RX5 yX5_giveAnew yX5_giveAnew, Cond.code yX5_giveAnew cX5_giveAnew 4 none, Cond.fieldLink RX5 19 "Bumpherald$Raises" "openCount" "I", Cond.fieldLink RX5 25 "Bumpherald$Raises" "open" "[I", Cond.methodLink RX5 31 yX4_isIn, Cond.instanceMethod yX4_isIn, Cond.selects RX4 yX4_isIn yX4_isIn, Cond.code yX4_isIn cX4_isIn 3 (some .boolean), Cond.methodLink RX5 35 yX5_hasOwnReviewer, Cond.instanceMethod yX5_hasOwnReviewer, Cond.selects RX5 yX5_hasOwnReviewer yX5_hasOwnReviewer, Cond.code yX5_hasOwnReviewer cX5_hasOwnReviewer 3 (some .boolean), Cond.fieldLink RX5 28 "Bumpherald$Raises" "reviewers" "[I", Cond.methodLink RX5 47 yX5_reviewsAnother]
def wsL_law0_r12 : List Cond := [Cond.instanceMethod yX5_reviewsAnother, Cond.selects RX5 yX5_reviewsAnother yX5_reviewsAnother, Cond.code yX5_reviewsAnother cX5_reviewsAnother 6 (some .boolean), Cond.fieldLink RX5 51 "Bumpherald$Raises" "groups" "[I", Cond.methodLink RX5 39 yX5_bestFor, Cond.instanceMethod yX5_bestFor, Cond.selects RX5 yX5_bestFor yX5_bestFor, Cond.code yX5_bestFor cX5_bestFor 6 (some .int), Cond.fieldLink RX5 58 "Bumpherald$Raises" "risks" "[I", Cond.methodLink RX5 54 yX5_loadWithout, Cond.instanceMethod yX5_loadWithout, Cond.selects RX5 yX5_loadWithout yX5_loadWithout, Cond.code yX5_loadWithout cX5_loadWithout 6 (some .int), Cond.methodLink RX5 43 yX5_give, Cond.instanceMethod yX5_give, Cond.selects RX5 yX5_give yX5_give, Cond.code yX5_give cX5_give 3 none, Cond.fieldLink RX5 61 "Bumpherald$Raises" "approved" "[Z", Cond.methodLink RL 108 yX7_raise, Cond.instanceMethod yX7_raise, Cond.selects RX7 yX7_raise yX7_raise, Cond.code yX7_raise cX7_raise 8 (some .int), Cond.fieldLink RX7 79 "BumpheraldModel" "raises" "I", Cond.fieldLink RX7 123 "BumpheraldModel" "day" "I"]
def wsL_law0_r13 : List Cond := [Cond.methodLink RX7 120 yX7_open, Cond.instanceMethod yX7_open, Cond.selects RX7 yX7_open yX7_open, Cond.code yX7_open cX7_open 3 (some .int), Cond.methodLink RX7 116 yX7_give, Cond.instanceMethod yX7_give, Cond.selects RX7 yX7_give yX7_give, Cond.code yX7_give cX7_give 6 none, Cond.methodLink RX7 108 yX7_has, Cond.instanceMethod yX7_has, Cond.selects RX7 yX7_has yX7_has, Cond.code yX7_has cX7_has 7 (some .boolean), Cond.methodLink RX7 112 yX7_loadOf, Cond.instanceMethod yX7_loadOf, Cond.selects RX7 yX7_loadOf yX7_loadOf, Cond.code yX7_loadOf cX7_loadOf 5 (some .int), Cond.methodLink RL 109 yL_approve, Cond.static yL_approve, Cond.codeWith yL_approve cL_approve 4 (some .int) [(0, 16, 19, 21), (0, 16, 22, 15)], Cond.methodLink RL 37 yX6_approve, Cond.instanceMethod yX6_approve, Cond.selects RX6 yX6_approve yX6_approve, Cond.code yX6_approve cX6_approve 3 (some .boolean), Cond.fieldLink RX6 143 "Bumpherald$Raises" "reviewers" "[I"]
def wsL_law0_r14 : List Cond := [Cond.fieldLink RX6 147 "Bumpherald$Raises" "approved" "[Z", Cond.methodLink RX6 140 yX6_checkOpen, Cond.instanceMethod yX6_checkOpen, Cond.selects RX6 yX6_checkOpen yX6_checkOpen, Cond.code yX6_checkOpen cX6_checkOpen 2 none, Cond.fieldLink RX6 188 "Bumpherald$Raises" "states" "[I", Cond.methodLink RX6 185 yX6_checkRaise, Cond.instanceMethod yX6_checkRaise, Cond.selects RX6 yX6_checkRaise yX6_checkRaise, Cond.code yX6_checkRaise cX6_checkRaise 2 none, Cond.methodLink RL 111 yX7_approve, Cond.instanceMethod yX7_approve, Cond.selects RX7 yX7_approve yX7_approve, Cond.code yX7_approve cX7_approve 4 (some .boolean), Cond.methodLink RX7 82 yX7_isRaise, Cond.instanceMethod yX7_isRaise, Cond.selects RX7 yX7_isRaise yX7_isRaise, Cond.code yX7_isRaise cX7_isRaise 2 (some .boolean), Cond.methodLink RL 112 yL_land, Cond.static yL_land, Cond.codeWith yL_land cL_land 5 (some .int) [(0, 10, 13, 21), (0, 10, 17, 15)], Cond.methodLink RL 41 yX6_land, Cond.instanceMethod yX6_land, Cond.selects RX6 yX6_land yX6_land]
def wsL_law0_r15 : List Cond := [Cond.code yX6_land cX6_land 5 (some .int), Cond.methodLink RX6 151 yX4_groupOf, Cond.instanceMethod yX4_groupOf, Cond.selects RX4 yX4_groupOf yX4_groupOf, Cond.code yX4_groupOf cX4_groupOf 4 (some .int), Cond.methodLink RX6 154 yX6_isLandable, Cond.instanceMethod yX6_isLandable, Cond.selects RX6 yX6_isLandable yX6_isLandable, Cond.code yX6_isLandable cX6_isLandable 2 (some .boolean), Cond.methodLink RX6 200 yX4_failing, Cond.instanceMethod yX4_failing, Cond.selects RX4 yX4_failing yX4_failing, Cond.code yX4_failing cX4_failing 2 (some .int), Cond.methodLink RX4 65 yX4_plan, Cond.instanceMethod yX4_plan, Cond.selects RX4 yX4_plan yX4_plan, Cond.code yX4_plan cX4_plan 3 none, Cond.fieldLink RX4 79 "Bumpherald$Packages" "planned" "[I", Cond.methodLink RX4 76 yX3_startPlan, Cond.instanceMethod yX3_startPlan, Cond.selects RX3 yX3_startPlan yX3_startPlan, Cond.code yX3_startPlan cX3_startPlan 2 none, Cond.methodLink RX4 54 yX4_isIn, Cond.methodLink RX4 69 yX3_failingInPlan]
def wsL_law0_r16 : List Cond := [Cond.instanceMethod yX3_failingInPlan, Cond.selects RX3 yX3_failingInPlan yX3_failingInPlan, Cond.code yX3_failingInPlan cX3_failingInPlan 3 (some .int), Cond.methodLink RX3 37 yX3_holdsInPlan, Cond.instanceMethod yX3_holdsInPlan, Cond.selects RX3 yX3_holdsInPlan yX3_holdsInPlan, Cond.code yX3_holdsInPlan cX3_holdsInPlan 3 (some .boolean), Cond.methodLink RX6 229 yX4_areApproved, Cond.instanceMethod yX4_areApproved, Cond.selects RX4 yX4_areApproved yX4_areApproved, Cond.code yX4_areApproved cX4_areApproved 3 (some .boolean), Cond.methodLink RX6 232 yX4_packagesOf, Cond.instanceMethod yX4_packagesOf, Cond.selects RX4 yX4_packagesOf yX4_packagesOf, Cond.code yX4_packagesOf cX4_packagesOf 4 (some .int), Cond.methodLink RX6 235 yX1_isFrozen, Cond.instanceMethod yX1_isFrozen, Cond.selects RX1 yX1_isFrozen yX1_isFrozen, Cond.code yX1_isFrozen cX1_isFrozen 4 (some .boolean), Cond.methodLink RX6 160 yJ6_bitCount_0f7a4, Cond.static yJ6_bitCount_0f7a4, Cond.initialized RJ6, Cond.code yJ6_bitCount_0f7a4 cJ6_bitCount_0f7a4 1 (some .int), Cond.constant RJ6 265 (1431655765)]
def wsL_law0_r17 : List Cond := [Cond.constant RJ6 266 (858993459), Cond.constant RJ6 267 (252645135), Cond.methodLink RX6 165 yX4_release, Cond.instanceMethod yX4_release, Cond.selects RX4 yX4_release yX4_release, Cond.code yX4_release cX4_release 5 none, Cond.fieldLink RX4 58 "Bumpherald$Packages" "versions" "[I", Cond.methodLink RX4 61 yX4_end, Cond.instanceMethod yX4_end, Cond.selects RX4 yX4_end yX4_end, Cond.code yX4_end cX4_end 3 none, Cond.methodLink RX6 168 yX4_end, Cond.methodLink RX6 172 yX2_part, Cond.instanceMethod yX2_part, Cond.selects RX2 yX2_part yX2_part, Cond.code yX2_part cX2_part 3 none, Cond.fieldLink RX2 66 "Bumpherald$Raises" "openCount" "I", Cond.fieldLink RX2 72 "Bumpherald$Raises" "approved" "[Z", Cond.fieldLink RX2 75 "Bumpherald$Raises" "open" "[I", Cond.methodLink RX2 69 yX4_isIn, Cond.methodLink RX2 57 yX4_group, Cond.instanceMethod yX4_group, Cond.selects RX4 yX4_group yX4_group, Cond.code yX4_group cX4_group 4 none]
def wsL_law0_r18 : List Cond := [Cond.methodLink RX2 61 yX5_giveAnew, Cond.methodLink RL 115 yX7_land, Cond.instanceMethod yX7_land, Cond.selects RX7 yX7_land yX7_land, Cond.code yX7_land cX7_land 9 (some .int), Cond.methodLink RX7 129 yX7_landable, Cond.instanceMethod yX7_landable, Cond.selects RX7 yX7_landable yX7_landable, Cond.code yX7_landable cX7_landable 5 (some .boolean), Cond.methodLink RX7 126 yX7_failsWith, Cond.instanceMethod yX7_failsWith, Cond.selects RX7 yX7_failsWith yX7_failsWith, Cond.code yX7_failsWith cX7_failsWith 4 (some .int), Cond.methodLink RX7 101 yX7_asNow, Cond.instanceMethod yX7_asNow, Cond.selects RX7 yX7_asNow yX7_asNow, Cond.code yX7_asNow cX7_asNow 2 none, Cond.methodLink RX7 104 yX7_failing, Cond.instanceMethod yX7_failing, Cond.selects RX7 yX7_failing yX7_failing, Cond.code yX7_failing cX7_failing 3 (some .int), Cond.methodLink RX7 132 yX7_sizeOf, Cond.instanceMethod yX7_sizeOf, Cond.selects RX7 yX7_sizeOf yX7_sizeOf]
def wsL_law0_r19 : List Cond := [Cond.code yX7_sizeOf cX7_sizeOf 4 (some .int), Cond.methodLink RL 116 yL_close, Cond.static yL_close, Cond.codeWith yL_close cL_close 3 (some .int) [(0, 5, 8, 21), (0, 5, 11, 15)], Cond.methodLink RL 45 yX6_close, Cond.instanceMethod yX6_close, Cond.selects RX6 yX6_close yX6_close, Cond.code yX6_close cX6_close 2 none, Cond.methodLink RX6 175 yX2_leave, Cond.instanceMethod yX2_leave, Cond.selects RX2 yX2_leave yX2_leave, Cond.code yX2_leave cX2_leave 3 none, Cond.methodLink RX2 78 yX2_mateOf, Cond.instanceMethod yX2_mateOf, Cond.selects RX2 yX2_mateOf yX2_mateOf, Cond.code yX2_mateOf cX2_mateOf 4 (some .int), Cond.fieldLink RX2 32 "Bumpherald$Raises" "groups" "[I", Cond.methodLink RX2 51 yX4_groupOf, Cond.methodLink RX2 81 yX4_bitOf, Cond.methodLink RX2 84 yX4_end, Cond.methodLink RL 119 yX7_close, Cond.instanceMethod yX7_close, Cond.selects RX7 yX7_close yX7_close, Cond.code yX7_close cX7_close 3 none]
def wsL_law0_r20 : List Cond := [Cond.methodLink RX7 136 yX7_settle, Cond.instanceMethod yX7_settle, Cond.selects RX7 yX7_settle yX7_settle, Cond.code yX7_settle cX7_settle 4 none, Cond.methodLink RL 120 yL_pass, Cond.static yL_pass, Cond.codeWith yL_pass cL_pass 4 (some .int) [(0, 9, 12, 13), (0, 9, 15, 15)], Cond.methodLink RL 49 yX6_pass, Cond.instanceMethod yX6_pass, Cond.selects RX6 yX6_pass yX6_pass, Cond.code yX6_pass cX6_pass 3 (some .int), Cond.methodLink RX6 182 yX2_joinSleepers, Cond.instanceMethod yX2_joinSleepers, Cond.selects RX2 yX2_joinSleepers yX2_joinSleepers, Cond.code yX2_joinSleepers cX2_joinSleepers 3 none, Cond.fieldLink RX2 27 "Bumpherald$Raises" "count" "I", Cond.methodLink RX2 36 yX2_sleepsTooLong, Cond.instanceMethod yX2_sleepsTooLong, Cond.selects RX2 yX2_sleepsTooLong yX2_sleepsTooLong, Cond.code yX2_sleepsTooLong cX2_sleepsTooLong 3 (some .boolean), Cond.fieldLink RX2 48 "Bumpherald$Raises" "days" "[I", Cond.methodLink RX2 54 yX4_failing, Cond.methodLink RX2 40 yX2_bestPartner, Cond.instanceMethod yX2_bestPartner]
def wsL_law0_r21 : List Cond := [Cond.selects RX2 yX2_bestPartner yX2_bestPartner, Cond.code yX2_bestPartner cX2_bestPartner 7 (some .int), Cond.methodLink RX2 44 yX2_join, Cond.instanceMethod yX2_join, Cond.selects RX2 yX2_join yX2_join, Cond.code yX2_join cX2_join 4 none, Cond.methodLink RL 122 yX7_pass, Cond.instanceMethod yX7_pass, Cond.selects RX7 yX7_pass yX7_pass, Cond.code yX7_pass cX7_pass 4 (some .int), Cond.methodLink RX7 142 yX7_wake, Cond.instanceMethod yX7_wake, Cond.selects RX7 yX7_wake yX7_wake, Cond.code yX7_wake cX7_wake 7 none, Cond.methodLink RX7 139 yX7_oldest, Cond.instanceMethod yX7_oldest, Cond.selects RX7 yX7_oldest yX7_oldest, Cond.code yX7_oldest cX7_oldest 4 (some .int), Cond.methodLink RL 123 yX6_day, Cond.instanceMethod yX6_day, Cond.selects RX6 yX6_day yX6_day, Cond.code yX6_day cX6_day 1 (some .int), Cond.methodLink RL 126 yX7_day, Cond.instanceMethod yX7_day]
def wsL_law0_r22 : List Cond := [Cond.selects RX7 yX7_day yX7_day, Cond.code yX7_day cX7_day 1 (some .int), Cond.methodLink RL 127 yL_version, Cond.static yL_version, Cond.codeWith yL_version cL_version 4 (some .int) [(0, 9, 12, 21)], Cond.methodLink RL 52 yX6_version, Cond.instanceMethod yX6_version, Cond.selects RX6 yX6_version yX6_version, Cond.code yX6_version cX6_version 2 (some .int), Cond.methodLink RL 129 yX7_version, Cond.instanceMethod yX7_version, Cond.selects RX7 yX7_version yX7_version, Cond.code yX7_version cX7_version 2 (some .int), Cond.methodLink RL 130 yL_raiseOf, Cond.static yL_raiseOf, Cond.codeWith yL_raiseOf cL_raiseOf 5 (some .int) [(0, 10, 13, 21), (0, 10, 17, 13)], Cond.methodLink RL 55 yX6_raiseOf, Cond.instanceMethod yX6_raiseOf, Cond.selects RX6 yX6_raiseOf yX6_raiseOf, Cond.code yX6_raiseOf cX6_raiseOf 3 (some .int), Cond.fieldLink RX6 191 "Bumpherald$Raises" "packs" "[I", Cond.fieldLink RX6 194 "Bumpherald$Raises" "versions" "[I", Cond.fieldLink RX6 195 "Bumpherald$Raises" "groups" "[I", Cond.methodLink RL 132 yX7_raiseOf]
def wsL_law0_r23 : List Cond := [Cond.instanceMethod yX7_raiseOf, Cond.selects RX7 yX7_raiseOf yX7_raiseOf, Cond.code yX7_raiseOf cX7_raiseOf 3 (some .int), Cond.methodLink RL 133 yL_fails, Cond.static yL_fails, Cond.codeWith yL_fails cL_fails 4 (some .int) [(0, 9, 12, 21), (0, 9, 15, 15)], Cond.methodLink RL 58 yX6_fails, Cond.instanceMethod yX6_fails, Cond.selects RX6 yX6_fails yX6_fails, Cond.code yX6_fails cX6_fails 2 (some .int), Cond.methodLink RL 135 yX7_fails, Cond.instanceMethod yX7_fails, Cond.selects RX7 yX7_fails yX7_fails, Cond.code yX7_fails cX7_fails 3 (some .int), Cond.methodLink RL 136 yL_canLand, Cond.static yL_canLand, Cond.codeWith yL_canLand cL_canLand 4 (some .int) [(0, 16, 19, 21), (0, 16, 22, 15)], Cond.methodLink RL 61 yX6_canLand, Cond.instanceMethod yX6_canLand, Cond.selects RX6 yX6_canLand yX6_canLand, Cond.code yX6_canLand cX6_canLand 2 (some .boolean), Cond.methodLink RL 138 yX7_canLand, Cond.instanceMethod yX7_canLand, Cond.selects RX7 yX7_canLand yX7_canLand]
def wsL_law0_r24 : List Cond := [Cond.code yX7_canLand cX7_canLand 3 (some .boolean), Cond.methodLink RL 139 yL_load, Cond.static yL_load, Cond.codeWith yL_load cL_load 4 (some .int) [(0, 9, 12, 21)], Cond.methodLink RL 64 yX6_load, Cond.instanceMethod yX6_load, Cond.selects RX6 yX6_load yX6_load, Cond.code yX6_load cX6_load 2 (some .int), Cond.methodLink RX6 203 yX5_loadWithout, Cond.methodLink RL 141 yX7_load, Cond.instanceMethod yX7_load, Cond.selects RX7 yX7_load yX7_load, Cond.code yX7_load cX7_load 2 (some .int), Cond.methodLink RL 142 yL_fewest, Cond.static yL_fewest, Cond.codeWith yL_fewest cL_fewest 4 (some .int) [(0, 9, 12, 21), (0, 9, 15, 15)], Cond.methodLink RL 67 yX6_fewest, Cond.instanceMethod yX6_fewest, Cond.selects RX6 yX6_fewest yX6_fewest, Cond.code yX6_fewest cX6_fewest 2 (some .int), Cond.methodLink RX6 207 yX0_byNeeds, Cond.static yX0_byNeeds, Cond.initialized RX0, Cond.code yX0_byNeeds cX0_byNeeds 6 (some .int)]
def wsL_law0_r25 : List Cond := [Cond.fieldLink RX0 15 "Bumpherald$Raises" "packages" "LBumpherald$Packages;", Cond.fieldLink RX0 19 "Bumpherald$Packages" "needOnes" "[I", Cond.fieldLink RX0 28 "Bumpherald$Packages" "needOthers" "[I", Cond.methodLink RX0 9 yX4_firstFailing, Cond.instanceMethod yX4_firstFailing, Cond.selects RX4 yX4_firstFailing yX4_firstFailing, Cond.code yX4_firstFailing cX4_firstFailing 2 (some .int), Cond.methodLink RX4 73 yX3_firstFailingInPlan, Cond.instanceMethod yX3_firstFailingInPlan, Cond.selects RX3 yX3_firstFailingInPlan yX3_firstFailingInPlan, Cond.code yX3_firstFailingInPlan cX3_firstFailingInPlan 2 (some .int), Cond.methodLink RX0 25 yX4_bitOfPackage, Cond.methodLink RL 144 yX7_fewest, Cond.instanceMethod yX7_fewest, Cond.selects RX7 yX7_fewest yX7_fewest, Cond.code yX7_fewest cX7_fewest 10 (some .int), Cond.methodLink RL 145 yL_fewestAnew, Cond.static yL_fewestAnew, Cond.codeWith yL_fewestAnew cL_fewestAnew 4 (some .int) [(0, 9, 12, 21), (0, 9, 15, 15)], Cond.methodLink RL 70 yX6_fewestAnew, Cond.instanceMethod yX6_fewestAnew, Cond.selects RX6 yX6_fewestAnew yX6_fewestAnew, Cond.code yX6_fewestAnew cX6_fewestAnew 2 (some .int), Cond.methodLink RX6 213 yX0_byAllSets]
def wsL_law0_r26 : List Cond := [Cond.static yX0_byAllSets, Cond.code yX0_byAllSets cX0_byAllSets 5 (some .int), Cond.fieldLink RX0 31 "Bumpherald$Raises" "openCount" "I", Cond.methodLink RX0 35 yJ6_bitCount_0f7a4, Cond.methodLink RX0 40 yX4_failing, Cond.methodLink RL 147 yX7_fewestAnew, Cond.instanceMethod yX7_fewestAnew, Cond.selects RX7 yX7_fewestAnew yX7_fewestAnew, Cond.code yX7_fewestAnew cX7_fewestAnew 2 (some .int), Cond.methodLink RX7 145 yX7_fewest, Cond.methodLink RL 148 yL_told, Cond.static yL_told, Cond.codeWith yL_told cL_told 5 (some .int) [(0, 10, 13, 21), (0, 10, 17, 15)], Cond.methodLink RL 73 yX6_told, Cond.instanceMethod yX6_told, Cond.selects RX6 yX6_told yX6_told, Cond.code yX6_told cX6_told 4 (some .char), Cond.methodLink RL 150 yX7_told, Cond.instanceMethod yX7_told, Cond.selects RX7 yX7_told yX7_told, Cond.code yX7_told cX7_told 4 (some .char)]
def wsL_law0 : List Cond := (wsL_law0_r1 ++ (wsL_law0_r2 ++ (wsL_law0_r3 ++ (wsL_law0_r4 ++ (wsL_law0_r5 ++ (wsL_law0_r6 ++ (wsL_law0_r7 ++ (wsL_law0_r8 ++ (wsL_law0_r9 ++ (wsL_law0_r10 ++ (wsL_law0_r11 ++ (wsL_law0_r12 ++ (wsL_law0_r13 ++ (wsL_law0_r14 ++ (wsL_law0_r15 ++ (wsL_law0_r16 ++ (wsL_law0_r17 ++ (wsL_law0_r18 ++ (wsL_law0_r19 ++ (wsL_law0_r20 ++ (wsL_law0_r21 ++ (wsL_law0_r22 ++ (wsL_law0_r23 ++ (wsL_law0_r24 ++ (wsL_law0_r25 ++ wsL_law0_r26))))))))))))))))))))))))) ++ wsX60 ++ wsX70 ++ wsX30 ++ wsX10 ++ wsX40 ++ wsX50 ++ wsX20 ++ ([] : List Cond)
def wsL_law : List Cond := wsL_law0 ++ (vx_atS RX6 62 "java/lang/IllegalArgumentException" ["java/lang/RuntimeException", "java/lang/Exception"]).filter goodWord ++ (vx_atS RX6 72 "java/lang/IllegalStateException" ["java/lang/RuntimeException", "java/lang/Exception"]).filter goodWord ++ (vx_atS RX6 220 "java/lang/IndexOutOfBoundsException" ["java/lang/RuntimeException", "java/lang/Exception"]).filter goodWord
set_option maxRecDepth 20000 in
abbrev vwCl : List vw_C := [(RX1, TX1, 4), (RX2, TX2, 4), (RX3, TX3, 8), (RX4, TX4, 12), (RX5, TX5, 2), (RX6, TX6, 6), (RX7, TX7, 25)]
end
section
/-! states, operations and rows for the two worlds: the class's and the model's -/
abbrev St : Type := (Nat → Int32) × (Nat → Nat → Int32)
def sF (S : St) (k : Nat) (v : Int32) : St := (fun j => if j = k then v else S.1 j, S.2)
def sA (S : St) (k : Nat) (i v : Int32) : St := (S.1, fun j => if j = k then upd (S.2 k) i.toNatClampNeg v else S.2 j)
def ldA (S : St) (k n : Nat) (i : Int32) : Option Int32 := if i < 0 ∨ n ≤ i.toNatClampNeg then none else some (S.2 k i.toNatClampNeg)
def stA (S : St) (k n : Nat) (i v : Int32) : Option St := if i < 0 ∨ n ≤ i.toNatClampNeg then none else some (sA S k i v)
def stZ (S : St) (k n : Nat) (i v : Int32) : Option St := if i < 0 ∨ n ≤ i.toNatClampNeg then none else some (sA S k i (vp_nar .boolean v))
def stF (S : St) (k : Nat) (v : Int32) : Option St := some (sF S k v)
def dvI (x y : Int32) : Option Int32 := if y = 0 then none else some (x / y)
def rmI (x y : Int32) : Option Int32 := if y = 0 then none else some (x - x / y * y)
def bzI (v : Int32) : Option Int32 := if v = 0 ∨ v = 1 then some v else none
theorem ldA_some {S : St} {k n : Nat} {i x : Int32} (h : ldA S k n i = some x) : vp_in i n ∧ S.2 k i.toNatClampNeg = x := by
  unfold ldA at h
  split at h
  · cases h
  · rename_i h1
    exact ⟨h1, Option.some.inj h⟩
theorem stA_some {S S1 : St} {k n : Nat} {i x : Int32} (h : stA S k n i x = some S1) : vp_in i n ∧ sA S k i x = S1 := by
  unfold stA at h
  split at h
  · cases h
  · rename_i h1
    exact ⟨h1, Option.some.inj h⟩
theorem stZ_some {S S1 : St} {k n : Nat} {i x : Int32} (h : stZ S k n i x = some S1) : vp_in i n ∧ sA S k i (vp_nar .boolean x) = S1 := by
  unfold stZ at h
  split at h
  · cases h
  · rename_i h1
    exact ⟨h1, Option.some.inj h⟩
theorem dvI_some {x y z : Int32} (h : dvI x y = some z) : ¬ y = 0 ∧ x / y = z := by
  unfold dvI at h
  split at h
  · cases h
  · rename_i h1
    exact ⟨h1, Option.some.inj h⟩
theorem rmI_some {x y z : Int32} (h : rmI x y = some z) : ¬ y = 0 ∧ x - x / y * y = z := by
  unfold rmI at h
  split at h
  · cases h
  · rename_i h1
    exact ⟨h1, Option.some.inj h⟩
theorem bzI_some {v w : Int32} (h : bzI v = some w) : v = w ∧ narrow .boolean (.int w) = .int w := by
  unfold bzI at h
  split at h
  · rename_i h1
    have h2 := Option.some.inj h
    subst h2
    rcases h1 with rfl | rfl
    · exact ⟨rfl, by decide +kernel⟩
    · exact ⟨rfl, by decide +kernel⟩
  · cases h
theorem obn {α β : Type} {o : Option α} {f : α → Option β} {b : β} (h : o.bind f = some b) : ∃ a, o = some a ∧ f a = some b := by
  cases o with
  | none => cases h
  | some a => exact ⟨a, rfl, h⟩
/-- the world's words in a method's start and end -/
abbrev kTy (cI cZ : ClassId) : List (ClassId × FieldType) := [(cI, .int), (cZ, .boolean)]
def kNx (U : State) : Prop := va_Nw (.methodLinkNest RX3 41 yX6_isWithin RX6) U ∧ va_Nw (.methodLinkNest RX1 25 yX6_isWithin RX6) U
theorem kNx.warm {s U : State} (hW : s.WarmedH U.vm) (h : kNx s) : kNx U := ⟨va_Nw.warmM hW h.1, va_Nw.warmM hW h.2⟩
def kK (D : va_G) (cI cZ : ClassId) (U : State) : Prop := va_K D vwCl (kTy cI cZ) U ∧ kNx U
theorem kK.warm {D : va_G} {cI cZ : ClassId} {s U : State} (hW : s.WarmedH U.vm) (h : kK D cI cZ s) : kK D cI cZ U := ⟨va_K.moved hW.alike h.1, kNx.warm hW h.2⟩
def kPre (D : va_G) (cI cZ : ClassId) (ws : va_W) (U : State) : Prop := va_P D vwCl ws U.heap ∧ kK D cI cZ U
def kQi (D : va_G) (cI cZ : ClassId) (A : Nat → Prop) (ws : va_W) (r : Int32) : Array Value → State → Outcome → State → Prop := fun _ st oc t => oc = .returned (some (.int r)) ∧ va_P D vwCl ws t.heap ∧ va_F A st t
def kQv (D : va_G) (cI cZ : ClassId) (A : Nat → Prop) (ws : va_W) : Array Value → State → Outcome → State → Prop := fun _ st oc t => oc = .returned none ∧ va_P D vwCl ws t.heap ∧ va_F A st t
theorem kPre.blind {D : va_G} {cI cZ : ClassId} {ws : va_W} {av : List Value} : FrameBlind (va_Pc av (kPre D cI cZ ws)) := fun _ U _ _ q => ⟨q.1, q.2.1, kK.warm (s := U) (State.WarmedH.refl U) q.2.2⟩
section KROW
variable {p : Program} {l : Launch} {e : Env} {R : Room} {s : State} {m : MethodId} {args : Array Value} {below : List Frame} {meth : Method} {c : Code} {H : Heap} {locs : List Loc} {cells slots : Nat} {Q : State → Prop}
variable {cc : ByteArray} {pc : Nat} {ls : Array Slot} {rest st0 : List Value} {D : va_G} {cI cZ : ClassId} {A A1 : Nat → Prop} {a : Nat} {H0 : Heap} {α : Type} {out : α} {Wd : St → va_W} {S : St}
theorem r_iald {k n : Nat} {i : Int32} {f : Int32 → Option α} (hx : p.tables.exec = Jvm.exec) (hb : c.code = cc) (hK : kK D cI cZ s) (hP : va_P D vwCl (Wd S) H) (q0 : Nat) (ha : (Wd S)[q0]? = some (a, .inl (cI, n, .inl (S.2 k)))) (hE : (ldA S k n i).bind f = some out) (hdg : decode cc pc = .ok (.iaload, 1))
    (kk : ∀ x, f x = some out → W p l e R s m args below meth c H locs cells slots Q (F0 m (pc + 1) ls (.int x :: rest))) : W p l e R s m args below meth c H locs cells slots Q (F0 m pc ls (.int i :: .ref a :: rest)) := by
  obtain ⟨x, h1, h2⟩ := obn hE
  obtain ⟨h3, h4⟩ := ldA_some h1
  refine va_iald hx hb hK.1 hP q0 0 ha rfl h3 hdg ?_
  rw [h4]
  exact kk x h2
theorem r_zald {k n : Nat} {i : Int32} {f : Int32 → Option α} (hx : p.tables.exec = Jvm.exec) (hb : c.code = cc) (hK : kK D cI cZ s) (hP : va_P D vwCl (Wd S) H) (q0 : Nat) (ha : (Wd S)[q0]? = some (a, .inl (cZ, n, .inl (S.2 k)))) (hE : (ldA S k n i).bind f = some out) (hdg : decode cc pc = .ok (.baload, 1))
    (kk : ∀ x, f x = some out → W p l e R s m args below meth c H locs cells slots Q (F0 m (pc + 1) ls (.int x :: rest))) : W p l e R s m args below meth c H locs cells slots Q (F0 m pc ls (.int i :: .ref a :: rest)) := by
  obtain ⟨x, h1, h2⟩ := obn hE
  obtain ⟨h3, h4⟩ := ldA_some h1
  refine va_zald hx hb hK.1 hP q0 1 ha rfl h3 hdg ?_
  rw [h4]
  exact kk x h2
theorem r_iast {k n : Nat} {i x : Int32} {f : St → Option α} (hx : p.tables.exec = Jvm.exec) (hb : c.code = cc) (hDD : ∀ S, va_D A (Wd S)) (hK : kK D cI cZ s) (hP : va_P D vwCl (Wd S) H) (hS : va_S A H0 H locs) (q0 : Nat) (ha : (Wd S)[q0]? = some (a, .inl (cI, n, .inl (S.2 k)))) (hu : (Wd S).set q0 (a, .inl (cI, n, .inl (upd (S.2 k) i.toNatClampNeg x))) = Wd (sA S k i x)) (hE : (stA S k n i x).bind f = some out) (hdg : decode cc pc = .ok (.iastore, 1))
    (kk : ∀ S1 H1 locs1, f S1 = some out → va_P D vwCl (Wd S1) H1 → va_S A H0 H1 locs1 → W p l e R s m args below meth c H1 locs1 cells slots Q (F0 m (pc + 1) ls rest)) : W p l e R s m args below meth c H locs cells slots Q (F0 m pc ls (.int x :: .int i :: .ref a :: rest)) := by
  obtain ⟨S1, h1, h2⟩ := obn hE
  obtain ⟨h3, h4⟩ := stA_some h1
  refine va_iast hx hb hK.1 hP (hDD S) hS q0 0 ha rfl h3 hdg (fun H1 locs1 hP1 _ hS1 => ?_)
  rw [hu, h4] at hP1
  exact kk S1 H1 locs1 h2 hP1 hS1
theorem r_zast {k n : Nat} {i x : Int32} {f : St → Option α} (hx : p.tables.exec = Jvm.exec) (hb : c.code = cc) (hDD : ∀ S, va_D A (Wd S)) (hK : kK D cI cZ s) (hP : va_P D vwCl (Wd S) H) (hS : va_S A H0 H locs) (q0 : Nat) (ha : (Wd S)[q0]? = some (a, .inl (cZ, n, .inl (S.2 k)))) (hu : (Wd S).set q0 (a, .inl (cZ, n, .inl (upd (S.2 k) i.toNatClampNeg (vp_nar .boolean x)))) = Wd (sA S k i (vp_nar .boolean x))) (hE : (stZ S k n i x).bind f = some out) (hdg : decode cc pc = .ok (.bastore, 1))
    (kk : ∀ S1 H1 locs1, f S1 = some out → va_P D vwCl (Wd S1) H1 → va_S A H0 H1 locs1 → W p l e R s m args below meth c H1 locs1 cells slots Q (F0 m (pc + 1) ls rest)) : W p l e R s m args below meth c H locs cells slots Q (F0 m pc ls (.int x :: .int i :: .ref a :: rest)) := by
  obtain ⟨S1, h1, h2⟩ := obn hE
  obtain ⟨h3, h4⟩ := stZ_some h1
  refine va_zast hx hb hK.1 hP (hDD S) hS q0 1 ha rfl h3 hdg (fun H1 locs1 hP1 _ hS1 => ?_)
  rw [hu, h4] at hP1
  exact kk S1 H1 locs1 h2 hP1 hS1
theorem r_puti {own C : String} {T : u_T} {N ci index : Nat} {Ts : List Cond} {kf : Nat} {fs : List Value} {x : Int32} {f : St → Option α} (hx : p.tables.exec = Jvm.exec) (hb : c.code = cc) (hts : ∀ w ∈ Ts, w.before args s = true) (hin : ∀ w ∈ u_ws C T N, w ∈ Ts) (ty0 : Nat → FieldType) (hty : ∀ k, k < N → parseFieldDescriptor (T k).2.2.1 = some (ty0 k)) (hnm : ∀ a, a < N → ∀ b, b < N → a ≠ b → (T a).2.1 ≠ (T b).2.1) (hown : s.vm.findClass own = some m.cls)
    (hDD : ∀ S, va_D A (Wd S)) (hK : kK D cI cZ s) (hP : va_P D vwCl (Wd S) H) (hS : va_S A H0 H locs) (q0 : Nat) (he : (Wd S)[q0]? = some (a, .inr (ci, fs))) (hc : vwCl[ci]? = some (C, T, N)) (k : Nat) (hk : k < N) (hlink : (Cond.fieldLink own index C (T k).2.1 (T k).2.2.1).before args s = true) (hC : (T k).1 = C) (hfin : (T k).2.2.2 = false) (hd : parseFieldDescriptor (T k).2.2.1 = some .int) (hl : k < fs.length)
    (hu : (Wd S).set q0 (a, .inr (ci, fs.set k (.int x))) = Wd (sF S kf x)) (hE : (stF S kf x).bind f = some out) (hdg : decode cc pc = .ok (.putfield index, 3))
    (kk : ∀ S1 H1 locs1, f S1 = some out → va_P D vwCl (Wd S1) H1 → va_S A H0 H1 locs1 → W p l e R s m args below meth c H1 locs1 cells slots Q (F0 m (pc + 3) ls rest)) : W p l e R s m args below meth c H locs cells slots Q (F0 m pc ls (.int x :: .ref a :: rest)) := by
  obtain ⟨S1, h1, h2⟩ := obn hE
  have h4 : sF S kf x = S1 := Option.some.inj h1
  refine va_put (ty := .int) hx hb hts hin ty0 hty hnm hown hK.1 hP (hDD S) hS q0 he hc k hk hlink (by rw [hC]; exact fun _ h9 => h9) hfin hd rfl rfl hl hdg (fun H1 locs1 hP1 _ hS1 => ?_)
  rw [hu, h4] at hP1
  exact kk S1 H1 locs1 h2 hP1 hS1
theorem r_idiv {x y : Int32} {f : Int32 → Option α} (hx : p.tables.exec = Jvm.exec) (hb : c.code = cc) (hE : (dvI x y).bind f = some out) (hdg : decode cc pc = .ok (.idiv, 1))
    (kk : ∀ z, f z = some out → W p l e R s m args below meth c H locs cells slots Q (F0 m (pc + 1) ls (.int z :: rest))) : W p l e R s m args below meth c H locs cells slots Q (F0 m pc ls (.int y :: .int x :: rest)) := by
  obtain ⟨z, h1, h2⟩ := obn hE
  obtain ⟨h3, h4⟩ := dvI_some h1
  refine lv_idiv hx hb hdg h3 ?_
  rw [h4]
  exact kk z h2
theorem r_irem {x y : Int32} {f : Int32 → Option α} (hx : p.tables.exec = Jvm.exec) (hb : c.code = cc) (hE : (rmI x y).bind f = some out) (hdg : decode cc pc = .ok (.irem, 1))
    (kk : ∀ z, f z = some out → W p l e R s m args below meth c H locs cells slots Q (F0 m (pc + 1) ls (.int z :: rest))) : W p l e R s m args below meth c H locs cells slots Q (F0 m pc ls (.int y :: .int x :: rest)) := by
  obtain ⟨z, h1, h2⟩ := obn hE
  obtain ⟨h3, h4⟩ := rmI_some h1
  refine lv_irem hx hb hdg h3 ?_
  rw [h4]
  exact kk z h2
theorem ifE {α : Type} {c : Prop} [Decidable c] {a b : Option α} {o : α} {X Y : Prop} (hE : (if c then a else b) = some o) (kt : c → a = some o → X) (kf : ¬ c → b = some o → Y) : (c → X) ∧ (¬ c → Y) := ⟨fun h => kt h (by rw [if_pos h] at hE; exact hE), fun h => kf h (by rw [if_neg h] at hE; exact hE)⟩
theorem r_if_eq {x : Int32} {off : Int} {tgt : Nat} {a1 a2 : Option α} (hx : p.tables.exec = Jvm.exec) (hb : c.code = cc) (hdg : decode cc pc = .ok (.ifCond .eq off, 3)) (ht : (pc : Int) + off = (tgt : Int)) (hE : (if x = 0 then a1 else a2) = some out)
    (kt : x = 0 → a1 = some out → W p l e R s m args below meth c H locs cells slots Q (F0 m (tgt) ls rest)) (kf : ¬ x = 0 → a2 = some out → W p l e R s m args below meth c H locs cells slots Q (F0 m (pc + 3) ls rest)) : W p l e R s m args below meth c H locs cells slots Q (F0 m pc ls (.int x :: rest)) := lv_if_eq hx hb hdg ht (fun h => kt h (by rw [if_pos h] at hE; exact hE)) (fun h => kf h (by rw [if_neg h] at hE; exact hE))
theorem r_if_ne {x : Int32} {off : Int} {tgt : Nat} {a1 a2 : Option α} (hx : p.tables.exec = Jvm.exec) (hb : c.code = cc) (hdg : decode cc pc = .ok (.ifCond .ne off, 3)) (ht : (pc : Int) + off = (tgt : Int)) (hE : (if x = 0 then a1 else a2) = some out)
    (kt : x = 0 → a1 = some out → W p l e R s m args below meth c H locs cells slots Q (F0 m (pc + 3) ls rest)) (kf : ¬ x = 0 → a2 = some out → W p l e R s m args below meth c H locs cells slots Q (F0 m (tgt) ls rest)) : W p l e R s m args below meth c H locs cells slots Q (F0 m pc ls (.int x :: rest)) := lv_if_ne hx hb hdg ht (fun h => kf h (by rw [if_neg h] at hE; exact hE)) (fun h => kt h (by rw [if_pos h] at hE; exact hE))
theorem r_if_lt {x : Int32} {off : Int} {tgt : Nat} {a1 a2 : Option α} (hx : p.tables.exec = Jvm.exec) (hb : c.code = cc) (hdg : decode cc pc = .ok (.ifCond .lt off, 3)) (ht : (pc : Int) + off = (tgt : Int)) (hE : (if x < 0 then a1 else a2) = some out)
    (kt : x < 0 → a1 = some out → W p l e R s m args below meth c H locs cells slots Q (F0 m (tgt) ls rest)) (kf : ¬ x < 0 → a2 = some out → W p l e R s m args below meth c H locs cells slots Q (F0 m (pc + 3) ls rest)) : W p l e R s m args below meth c H locs cells slots Q (F0 m pc ls (.int x :: rest)) := lv_if_lt hx hb hdg ht (fun h => kt h (by rw [if_pos h] at hE; exact hE)) (fun h => kf h (by rw [if_neg h] at hE; exact hE))
theorem r_if_ge {x : Int32} {off : Int} {tgt : Nat} {a1 a2 : Option α} (hx : p.tables.exec = Jvm.exec) (hb : c.code = cc) (hdg : decode cc pc = .ok (.ifCond .ge off, 3)) (ht : (pc : Int) + off = (tgt : Int)) (hE : (if 0 ≤ x then a1 else a2) = some out)
    (kt : 0 ≤ x → a1 = some out → W p l e R s m args below meth c H locs cells slots Q (F0 m (tgt) ls rest)) (kf : ¬ 0 ≤ x → a2 = some out → W p l e R s m args below meth c H locs cells slots Q (F0 m (pc + 3) ls rest)) : W p l e R s m args below meth c H locs cells slots Q (F0 m pc ls (.int x :: rest)) := lv_if_ge hx hb hdg ht (fun h => kt h (by rw [if_pos h] at hE; exact hE)) (fun h => kf h (by rw [if_neg h] at hE; exact hE))
theorem r_if_gt {x : Int32} {off : Int} {tgt : Nat} {a1 a2 : Option α} (hx : p.tables.exec = Jvm.exec) (hb : c.code = cc) (hdg : decode cc pc = .ok (.ifCond .gt off, 3)) (ht : (pc : Int) + off = (tgt : Int)) (hE : (if 0 < x then a1 else a2) = some out)
    (kt : 0 < x → a1 = some out → W p l e R s m args below meth c H locs cells slots Q (F0 m (tgt) ls rest)) (kf : ¬ 0 < x → a2 = some out → W p l e R s m args below meth c H locs cells slots Q (F0 m (pc + 3) ls rest)) : W p l e R s m args below meth c H locs cells slots Q (F0 m pc ls (.int x :: rest)) := lv_if_gt hx hb hdg ht (fun h => kt h (by rw [if_pos h] at hE; exact hE)) (fun h => kf h (by rw [if_neg h] at hE; exact hE))
theorem r_if_le {x : Int32} {off : Int} {tgt : Nat} {a1 a2 : Option α} (hx : p.tables.exec = Jvm.exec) (hb : c.code = cc) (hdg : decode cc pc = .ok (.ifCond .le off, 3)) (ht : (pc : Int) + off = (tgt : Int)) (hE : (if x ≤ 0 then a1 else a2) = some out)
    (kt : x ≤ 0 → a1 = some out → W p l e R s m args below meth c H locs cells slots Q (F0 m (tgt) ls rest)) (kf : ¬ x ≤ 0 → a2 = some out → W p l e R s m args below meth c H locs cells slots Q (F0 m (pc + 3) ls rest)) : W p l e R s m args below meth c H locs cells slots Q (F0 m pc ls (.int x :: rest)) := lv_if_le hx hb hdg ht (fun h => kt h (by rw [if_pos h] at hE; exact hE)) (fun h => kf h (by rw [if_neg h] at hE; exact hE))
theorem r_icmp_eq {x y : Int32} {off : Int} {tgt : Nat} {a1 a2 : Option α} (hx : p.tables.exec = Jvm.exec) (hb : c.code = cc) (hdg : decode cc pc = .ok (.if_icmp .eq off, 3)) (ht : (pc : Int) + off = (tgt : Int)) (hE : (if x = y then a1 else a2) = some out)
    (kt : x = y → a1 = some out → W p l e R s m args below meth c H locs cells slots Q (F0 m (tgt) ls rest)) (kf : ¬ x = y → a2 = some out → W p l e R s m args below meth c H locs cells slots Q (F0 m (pc + 3) ls rest)) : W p l e R s m args below meth c H locs cells slots Q (F0 m pc ls (.int y :: .int x :: rest)) := lv_icmp_eq hx hb hdg ht (fun h => kt h (by rw [if_pos h] at hE; exact hE)) (fun h => kf h (by rw [if_neg h] at hE; exact hE))
theorem r_icmp_ne {x y : Int32} {off : Int} {tgt : Nat} {a1 a2 : Option α} (hx : p.tables.exec = Jvm.exec) (hb : c.code = cc) (hdg : decode cc pc = .ok (.if_icmp .ne off, 3)) (ht : (pc : Int) + off = (tgt : Int)) (hE : (if x = y then a1 else a2) = some out)
    (kt : x = y → a1 = some out → W p l e R s m args below meth c H locs cells slots Q (F0 m (pc + 3) ls rest)) (kf : ¬ x = y → a2 = some out → W p l e R s m args below meth c H locs cells slots Q (F0 m (tgt) ls rest)) : W p l e R s m args below meth c H locs cells slots Q (F0 m pc ls (.int y :: .int x :: rest)) := lv_icmp_ne hx hb hdg ht (fun h => kf h (by rw [if_neg h] at hE; exact hE)) (fun h => kt h (by rw [if_pos h] at hE; exact hE))
theorem r_icmp_lt {x y : Int32} {off : Int} {tgt : Nat} {a1 a2 : Option α} (hx : p.tables.exec = Jvm.exec) (hb : c.code = cc) (hdg : decode cc pc = .ok (.if_icmp .lt off, 3)) (ht : (pc : Int) + off = (tgt : Int)) (hE : (if x < y then a1 else a2) = some out)
    (kt : x < y → a1 = some out → W p l e R s m args below meth c H locs cells slots Q (F0 m (tgt) ls rest)) (kf : ¬ x < y → a2 = some out → W p l e R s m args below meth c H locs cells slots Q (F0 m (pc + 3) ls rest)) : W p l e R s m args below meth c H locs cells slots Q (F0 m pc ls (.int y :: .int x :: rest)) := lv_icmp_lt hx hb hdg ht (fun h => kt h (by rw [if_pos h] at hE; exact hE)) (fun h => kf h (by rw [if_neg h] at hE; exact hE))
theorem r_icmp_ge {x y : Int32} {off : Int} {tgt : Nat} {a1 a2 : Option α} (hx : p.tables.exec = Jvm.exec) (hb : c.code = cc) (hdg : decode cc pc = .ok (.if_icmp .ge off, 3)) (ht : (pc : Int) + off = (tgt : Int)) (hE : (if y ≤ x then a1 else a2) = some out)
    (kt : y ≤ x → a1 = some out → W p l e R s m args below meth c H locs cells slots Q (F0 m (tgt) ls rest)) (kf : ¬ y ≤ x → a2 = some out → W p l e R s m args below meth c H locs cells slots Q (F0 m (pc + 3) ls rest)) : W p l e R s m args below meth c H locs cells slots Q (F0 m pc ls (.int y :: .int x :: rest)) := lv_icmp_ge hx hb hdg ht (fun h => kt h (by rw [if_pos h] at hE; exact hE)) (fun h => kf h (by rw [if_neg h] at hE; exact hE))
theorem r_icmp_gt {x y : Int32} {off : Int} {tgt : Nat} {a1 a2 : Option α} (hx : p.tables.exec = Jvm.exec) (hb : c.code = cc) (hdg : decode cc pc = .ok (.if_icmp .gt off, 3)) (ht : (pc : Int) + off = (tgt : Int)) (hE : (if y < x then a1 else a2) = some out)
    (kt : y < x → a1 = some out → W p l e R s m args below meth c H locs cells slots Q (F0 m (tgt) ls rest)) (kf : ¬ y < x → a2 = some out → W p l e R s m args below meth c H locs cells slots Q (F0 m (pc + 3) ls rest)) : W p l e R s m args below meth c H locs cells slots Q (F0 m pc ls (.int y :: .int x :: rest)) := lv_icmp_gt hx hb hdg ht (fun h => kt h (by rw [if_pos h] at hE; exact hE)) (fun h => kf h (by rw [if_neg h] at hE; exact hE))
theorem r_icmp_le {x y : Int32} {off : Int} {tgt : Nat} {a1 a2 : Option α} (hx : p.tables.exec = Jvm.exec) (hb : c.code = cc) (hdg : decode cc pc = .ok (.if_icmp .le off, 3)) (ht : (pc : Int) + off = (tgt : Int)) (hE : (if x ≤ y then a1 else a2) = some out)
    (kt : x ≤ y → a1 = some out → W p l e R s m args below meth c H locs cells slots Q (F0 m (tgt) ls rest)) (kf : ¬ x ≤ y → a2 = some out → W p l e R s m args below meth c H locs cells slots Q (F0 m (pc + 3) ls rest)) : W p l e R s m args below meth c H locs cells slots Q (F0 m pc ls (.int y :: .int x :: rest)) := lv_icmp_le hx hb hdg ht (fun h => kt h (by rw [if_pos h] at hE; exact hE)) (fun h => kf h (by rw [if_neg h] at hE; exact hE))
variable {y : MethodName} {bytes : ByteArray} {maxL nL n index : Nat} {ret : Option FieldType} {ws : List Cond} {rm : Room} {Ts : List Cond} {own C : String} {b : Addr} {As : List Value}
/-- behind a call that answers an int -/
theorem r_backi {F : Option (St × Int32)} {f : St × Int32 → Option α} {as : Array Value} (hr : ∀ S1 r, F = some (S1, r) → va_Run p l e R s m args below meth c H locs cells slots 0 0 (F0 m pc ls st0) rest (kQi D cI cZ A1 (Wd S1) r as) A1) (hS : va_S A H0 H locs) (hA : ∀ q, A1 q → A q) (hE : F.bind f = some out)
    (kk : ∀ (S1 : St) (r : Int32) H1 locs1, f (S1, r) = some out → va_P D vwCl (Wd S1) H1 → va_S A H0 H1 locs1 → W p l e R s m args below meth c H1 locs1 cells slots Q (F0 m (pc + 3) ls (.int r :: rest))) : W p l e R s m args below meth c H locs cells slots Q (F0 m pc ls st0) := by
  obtain ⟨⟨S1, r⟩, h1, h2⟩ := obn hE
  intro T hT X
  obtain ⟨v, st₀, t, T', L, h0, X', hL, e1, e2, ⟨hv, hb, hz, hk⟩, st⟩ := hr S1 r h1 T hT X
  cases hv
  rw [h0] at hz hk
  obtain ⟨t2, a1, b1⟩ := kk S1 r T'.heap (locs ++ L) h2 (by rw [e1]; exact hb)
    ⟨Nat.le_trans hS.1 (by rw [e1]; exact hz), fun q h1 h2 => by rw [e1, hk q (Nat.lt_of_lt_of_le h1 hS.1) (fun z => h2 (hA q z))]; exact hS.2.1 q h1 h2, fun q hq => by
      rcases List.mem_append.mp hq with h | h
      · exact hS.2.2 q h
      · exact hA _ (hL q h)⟩ T' rfl X'
  exact ⟨t2, st t2 a1, b1⟩
theorem r_backv {F : Option St} {f : St → Option α} {as : Array Value} (hr : ∀ S1, F = some S1 → va_Run p l e R s m args below meth c H locs cells slots 0 0 (F0 m pc ls st0) rest (kQv D cI cZ A1 (Wd S1) as) A1) (hS : va_S A H0 H locs) (hA : ∀ q, A1 q → A q) (hE : F.bind f = some out)
    (kk : ∀ (S1 : St) H1 locs1, f S1 = some out → va_P D vwCl (Wd S1) H1 → va_S A H0 H1 locs1 → W p l e R s m args below meth c H1 locs1 cells slots Q (F0 m (pc + 3) ls rest)) : W p l e R s m args below meth c H locs cells slots Q (F0 m pc ls st0) := by
  obtain ⟨S1, h1, h2⟩ := obn hE
  intro T hT X
  obtain ⟨v, st₀, t, T', L, h0, X', hL, e1, e2, ⟨hv, hb, hz, hk⟩, st⟩ := hr S1 h1 T hT X
  cases hv
  rw [h0] at hz hk
  obtain ⟨t2, a1, b1⟩ := kk S1 T'.heap (locs ++ L) h2 (by rw [e1]; exact hb)
    ⟨Nat.le_trans hS.1 (by rw [e1]; exact hz), fun q h1 h2 => by rw [e1, hk q (Nat.lt_of_lt_of_le h1 hS.1) (fun z => h2 (hA q z))]; exact hS.2.1 q h1 h2, fun q hq => by
      rcases List.mem_append.mp hq with h | h
      · exact hS.2.2 q h
      · exact hA _ (hL q h)⟩ T' rfl X'
  exact ⟨t2, st t2 a1, b1⟩
theorem kPre.at {Wd : St → va_W} {S : St} {av : List Value} (hK : kK D cI cZ s) (hP : va_P D vwCl (Wd S) H) : ∀ U : State, U.heap = H → s.WarmedH U.vm → va_Pc av (kPre D cI cZ (Wd S)) av.toArray U := fun U hU hW => ⟨rfl, by rw [hU]; exact hP, kK.warm hW hK⟩
theorem r_callVi {F : Option (St × Int32)} {f : St × Int32 → Option α} (As rest : List Value) (CF : CallFix p m c cc nL s args Ts own) (hM : ∀ S1 r, F = some (S1, r) → Met l y ws rm (va_Pc (.ref b :: As) (kPre D cI cZ (Wd S))) (kQi D cI cZ A1 (Wd S1) r) 0 0 A1) (cw : CallW R s args own C index y bytes maxL ret ws rm 0 0 n) (hrc : ∃ cellB : Cell, H[b]? = some cellB ∧ cellB.vm.isStatics = false ∧ s.vm.findClass C = some cellB.cls) (hK : kK D cI cZ s) (hP : va_P D vwCl (Wd S) H) (hS : va_S A H0 H locs) (hA : ∀ q, A1 q → A q)
    (hn : As.length = n) (hsz : ls.size = nL) (hst : st0 = As.reverse ++ .ref b :: rest) (hW : (rest.map fun v => v.category).sum ≤ 8) (hf : cells ≤ R.cells ∧ slots ≤ R.slots) (hE : F.bind f = some out) (hdg : decode cc pc = .ok (.invokevirtual index, 3))
    (kk : ∀ (S1 : St) (r : Int32) H1 locs1, f (S1, r) = some out → va_P D vwCl (Wd S1) H1 → va_S A H0 H1 locs1 → W p l e R s m args below meth c H1 locs1 cells slots Q (F0 m (pc + 3) ls (.int r :: rest))) : W p l e R s m args below meth c H locs cells slots Q (F0 m pc ls st0) :=
  r_backi (fun S1 r h => va_runV CF (hM S1 r h) cw ⟨kPre.blind, hrc, kPre.at hK hP⟩ rfl hn hsz hst (lv_room hW) hdg hf) hS hA hE kk
theorem r_callVv {F : Option St} {f : St → Option α} (As rest : List Value) (CF : CallFix p m c cc nL s args Ts own) (hM : ∀ S1, F = some S1 → Met l y ws rm (va_Pc (.ref b :: As) (kPre D cI cZ (Wd S))) (kQv D cI cZ A1 (Wd S1)) 0 0 A1) (cw : CallW R s args own C index y bytes maxL ret ws rm 0 0 n) (hrc : ∃ cellB : Cell, H[b]? = some cellB ∧ cellB.vm.isStatics = false ∧ s.vm.findClass C = some cellB.cls) (hK : kK D cI cZ s) (hP : va_P D vwCl (Wd S) H) (hS : va_S A H0 H locs) (hA : ∀ q, A1 q → A q)
    (hn : As.length = n) (hsz : ls.size = nL) (hst : st0 = As.reverse ++ .ref b :: rest) (hW : (rest.map fun v => v.category).sum ≤ 8) (hf : cells ≤ R.cells ∧ slots ≤ R.slots) (hE : F.bind f = some out) (hdg : decode cc pc = .ok (.invokevirtual index, 3))
    (kk : ∀ (S1 : St) H1 locs1, f S1 = some out → va_P D vwCl (Wd S1) H1 → va_S A H0 H1 locs1 → W p l e R s m args below meth c H1 locs1 cells slots Q (F0 m (pc + 3) ls rest)) : W p l e R s m args below meth c H locs cells slots Q (F0 m pc ls st0) :=
  r_backv (fun S1 h => va_runV CF (hM S1 h) cw ⟨kPre.blind, hrc, kPre.at hK hP⟩ rfl hn hsz hst (lv_room hW) hdg hf) hS hA hE kk
theorem r_callSi {F : Option (St × Int32)} {f : St × Int32 → Option α} (As rest : List Value) (CF : CallFix p m c cc nL s args Ts own) (hM : ∀ S1 r, F = some (S1, r) → Met l y ws rm (va_Pc As (kPre D cI cZ (Wd S))) (kQi D cI cZ A1 (Wd S1) r) 0 0 A1) (cw : CallB R s args own index y bytes maxL ret ws rm 0 0 n ∧ (Cond.static y).before args s = true) (hK : kK D cI cZ s) (hP : va_P D vwCl (Wd S) H) (hS : va_S A H0 H locs) (hA : ∀ q, A1 q → A q)
    (hn : As.length = n) (hsz : ls.size = nL) (hst : st0 = As.reverse ++ rest) (hW : (rest.map fun v => v.category).sum ≤ 8) (hf : cells ≤ R.cells ∧ slots ≤ R.slots) (hE : F.bind f = some out) (hdg : decode cc pc = .ok (.invokestatic index, 3))
    (kk : ∀ (S1 : St) (r : Int32) H1 locs1, f (S1, r) = some out → va_P D vwCl (Wd S1) H1 → va_S A H0 H1 locs1 → W p l e R s m args below meth c H1 locs1 cells slots Q (F0 m (pc + 3) ls (.int r :: rest))) : W p l e R s m args below meth c H locs cells slots Q (F0 m pc ls st0) :=
  r_backi (fun S1 r h => va_runS CF (hM S1 r h) cw ⟨kPre.blind, kPre.at hK hP⟩ rfl hn hsz hst (lv_room hW) hdg hf) hS hA hE kk
theorem r_callSN {F : Option (St × Int32)} {f : St × Int32 → Option α} {host : String} (As rest : List Value) (CF : CallFix p m c cc nL s args Ts own) (hM : ∀ S1 r, F = some (S1, r) → Met l y ws rm (va_Pc As (kPre D cI cZ (Wd S))) (kQi D cI cZ A1 (Wd S1) r) 0 0 A1) (cw : va_CN R s args own index y host bytes maxL ret ws rm 0 0 n ∧ (Cond.static y).before args s = true ∧ True) (hK : kK D cI cZ s) (hP : va_P D vwCl (Wd S) H) (hS : va_S A H0 H locs) (hA : ∀ q, A1 q → A q)
    (hn : As.length = n) (hsz : ls.size = nL) (hst : st0 = As.reverse ++ rest) (hW : (rest.map fun v => v.category).sum ≤ 8) (hf : cells ≤ R.cells ∧ slots ≤ R.slots) (hE : F.bind f = some out) (hdg : decode cc pc = .ok (.invokestatic index, 3))
    (kk : ∀ (S1 : St) (r : Int32) H1 locs1, f (S1, r) = some out → va_P D vwCl (Wd S1) H1 → va_S A H0 H1 locs1 → W p l e R s m args below meth c H1 locs1 cells slots Q (F0 m (pc + 3) ls (.int r :: rest))) : W p l e R s m args below meth c H locs cells slots Q (F0 m pc ls st0) :=
  r_backi (fun S1 r h => va_runSN CF (hM S1 r h) cw ⟨kPre.blind, kPre.at hK hP⟩ rfl hn hsz hst (lv_room hW) hdg hf) hS hA hE kk
/-- a method's ends -/
theorem k_iret {v r : Int32} {S1 : St} (hx : p.tables.exec = Jvm.exec) (hb : c.code = cc) (hr : meth.sig.returnType = some .int) (hlk : meth.locks = false) (hK : kK D cI cZ s) (hP : va_P D vwCl (Wd S) H) (hS : va_S A s.heap H locs) (hE : some (S, v) = some (S1, r)) (hdg : decode cc pc = .ok (.ireturn, 1)) : W p l e R s m args below meth c H locs cells slots (MQ below (kQi D cI cZ A (Wd S1) r) args s cells slots A) (F0 m pc ls [.int v]) := by
  cases hE
  exact W.iret hx hb hr (fun t ht hW => ⟨rfl, by rw [ht]; exact hP, hS.F ht⟩) hS.2.2 hdg hlk
theorem k_zret {v r : Int32} {S1 : St} {ty : FieldType} (hx : p.tables.exec = Jvm.exec) (hb : c.code = cc) (hr : meth.sig.returnType = some ty) (hlk : meth.locks = false) (hn : narrow ty (.int v) = .int v) (hK : kK D cI cZ s) (hP : va_P D vwCl (Wd S) H) (hS : va_S A s.heap H locs) (hE : some (S, v) = some (S1, r)) (hdg : decode cc pc = .ok (.ireturn, 1)) : W p l e R s m args below meth c H locs cells slots (MQ below (kQi D cI cZ A (Wd S1) r) args s cells slots A) (F0 m pc ls [.int v]) := by
  cases hE
  exact W.zret hx hb hr hn (fun t ht hW => ⟨rfl, by rw [ht]; exact hP, hS.F ht⟩) hS.2.2 hdg hlk
theorem k_bret {v r : Int32} {S1 : St} (hx : p.tables.exec = Jvm.exec) (hb : c.code = cc) (hr : meth.sig.returnType = some .boolean) (hlk : meth.locks = false) (hK : kK D cI cZ s) (hP : va_P D vwCl (Wd S) H) (hS : va_S A s.heap H locs) (hE : (bzI v).bind (fun w => some (S, w)) = some (S1, r)) (hdg : decode cc pc = .ok (.ireturn, 1)) : W p l e R s m args below meth c H locs cells slots (MQ below (kQi D cI cZ A (Wd S1) r) args s cells slots A) (F0 m pc ls [.int v]) := by
  obtain ⟨w, h1, h2⟩ := obn hE
  obtain ⟨h3, h4⟩ := bzI_some h1
  subst h3
  exact k_zret hx hb hr hlk h4 hK hP hS h2 hdg
theorem k_vret {S1 : St} (hx : p.tables.exec = Jvm.exec) (hb : c.code = cc) (hr : meth.sig.returnType = none) (hlk : meth.locks = false) (hK : kK D cI cZ s) (hP : va_P D vwCl (Wd S) H) (hS : va_S A s.heap H locs) (hE : some S = some S1) (hdg : decode cc pc = .ok (.return_, 1)) : W p l e R s m args below meth c H locs cells slots (MQ below (kQv D cI cZ A (Wd S1)) args s cells slots A) (F0 m pc ls []) := by
  cases hE
  exact W.vret hx hb hr (fun t ht hW => ⟨rfl, by rw [ht]; exact hP, hS.F ht⟩) hS.2.2 hdg hlk
end KROW
/-- a method's walk from its entry -/
theorem kMet_of {l : Launch} {D : va_G} {cI cZ : ClassId} {A : Nat → Prop} {y : MethodName} {ws ws' : List Cond} {rm : Room} {cc : ByteArray} {maxL : Nat} {ret : Option FieldType} {av : List Value} {ww : va_W} {Qc : Array Value → State → Outcome → State → Prop} (hy : plainName y.cls = true) (hw : ws = Cond.code y cc maxL ret :: ws') (hav : (lg_sl av).length ≤ maxL)
    (body : ∀ p e (s : State) m args below (meth : Method) (c : Code) (ls : Array Slot), p.tables.exec = Jvm.exec → c.code = cc → meth.sig.returnType = ret → c.maxLocals = maxL → s.vm.findClass y.cls = some m.cls → meth.locks = false → (∀ w ∈ ws, w.before args s = true) → kK D cI cZ s → va_P D vwCl ww s.heap → va_S A s.heap s.heap [] → lv_has ls maxL (lv_args 0 av) →
      W p l e (headSpec ws rm).room s m args below meth c s.heap [] 0 0 (MQ below Qc args s 0 0 A) (F0 m 0 ls [])) : Met l y ws rm (va_Pc av (kPre D cI cZ ww)) Qc 0 0 A := by
  refine Met.ofW hy hw ?_
  intro p e s m args below meth c s₁ B hml hv
  obtain ⟨rfl, hP, hK⟩ := hv
  rw [lg_entry_eq]
  exact body p e s m _ below meth c _ B.exec B.bytes B.returns hml (findClass_of_methodNamed B.named) B.notSynchronized (atoms_spec B.pre) hK hP va_S.rf (lv_entry av hav)

theorem sw_out6 {x : Int32} (h0 : ¬ x = 0) (h1 : ¬ x = 1) (h2 : ¬ x = 2) (h3 : ¬ x = 3) (h4 : ¬ x = 4) (h5 : ¬ x = 5) : x.toInt < 0 ∨ 5 < x.toInt := by
  have key : ∀ k : Int32, ¬ x = k → x.toInt ≠ k.toInt := fun k h e => h (Int32.toInt_inj.mp e)
  have a0 : x.toInt ≠ 0 := key 0 h0
  have a1 : x.toInt ≠ 1 := key 1 h1
  have a2 : x.toInt ≠ 2 := key 2 h2
  have a3 : x.toInt ≠ 3 := key 3 h3
  have a4 : x.toInt ≠ 4 := key 4 h4
  have a5 : x.toInt ≠ 5 := key 5 h5
  omega
theorem sw_out7 {x : Int32} (h0 : ¬ x = 0) (h1 : ¬ x = 1) (h2 : ¬ x = 2) (h3 : ¬ x = 3) (h4 : ¬ x = 4) (h5 : ¬ x = 5) (h6 : ¬ x = 6) : x.toInt < 0 ∨ 6 < x.toInt := by
  have key : ∀ k : Int32, ¬ x = k → x.toInt ≠ k.toInt := fun k h e => h (Int32.toInt_inj.mp e)
  have a0 : x.toInt ≠ 0 := key 0 h0
  have a1 : x.toInt ≠ 1 := key 1 h1
  have a2 : x.toInt ≠ 2 := key 2 h2
  have a3 : x.toInt ≠ 3 := key 3 h3
  have a4 : x.toInt ≠ 4 := key 4 h4
  have a5 : x.toInt ≠ 5 := key 5 h5
  have a6 : x.toInt ≠ 6 := key 6 h6
  omega
def mW (ad : Nat → Nat) (cI cZ : ClassId) (S : St) : va_W := [(ad 0, .inr (6, [.int (S.1 0), .int (S.1 1), .int (S.1 2), .ref (ad 1), .int (S.1 3), .ref (ad 2), .ref (ad 3), .ref (ad 4), .ref (ad 5), .ref (ad 6), .int (S.1 4), .int (S.1 5), .ref (ad 7), .ref (ad 8), .ref (ad 9), .int (S.1 6), .ref (ad 10), .ref (ad 11), .ref (ad 12), .ref (ad 13), .ref (ad 14), .ref (ad 15), .ref (ad 16), .ref (ad 17), .ref (ad 18)])), (ad 1, .inl (cI, 12, .inl (S.2 0))), (ad 2, .inl (cI, 20, .inl (S.2 1))), (ad 3, .inl (cI, 20, .inl (S.2 2))), (ad 4, .inl (cI, 20, .inl (S.2 3))), (ad 5, .inl (cI, 20, .inl (S.2 4))), (ad 6, .inl (cI, 6, .inl (S.2 5))), (ad 7, .inl (cI, 10, .inl (S.2 6))), (ad 8, .inl (cI, 10, .inl (S.2 7))), (ad 9, .inl (cI, 10, .inl (S.2 8))), (ad 10, .inl (cI, 40, .inl (S.2 9))), (ad 11, .inl (cI, 40, .inl (S.2 10))), (ad 12, .inl (cI, 40, .inl (S.2 11))), (ad 13, .inl (cI, 40, .inl (S.2 12))), (ad 14, .inl (cI, 40, .inl (S.2 13))), (ad 15, .inl (cI, 40, .inl (S.2 14))), (ad 16, .inl (cI, 40, .inl (S.2 15))), (ad 17, .inl (cZ, 40, .inl (S.2 16))), (ad 18, .inl (cI, 12, .inl (S.2 17)))]
def bW (ad : Nat → Nat) (cI cZ : ClassId) (S : St) : va_W := [(ad 0, .inr (5, [.ref (ad 1), .ref (ad 2), .ref (ad 3), .ref (ad 4), .ref (ad 5), .int (S.1 0)])), (ad 1, .inr (2, [.ref (ad 6), .ref (ad 7), .ref (ad 8), .ref (ad 9), .ref (ad 10), .ref (ad 11), .int (S.1 1), .int (S.1 2)])), (ad 2, .inr (0, [.ref (ad 12), .ref (ad 13), .ref (ad 14), .int (S.1 3)])), (ad 3, .inr (3, [.ref (ad 1), .ref (ad 15), .ref (ad 16), .ref (ad 17), .ref (ad 18), .ref (ad 19), .ref (ad 20), .ref (ad 21), .ref (ad 22), .ref (ad 23), .int (S.1 4), .int (S.1 5)])), (ad 4, .inr (4, [.ref (ad 3), .ref (ad 24)])), (ad 5, .inr (1, [.ref (ad 3), .ref (ad 4), .ref (ad 25), .int (S.1 6)])), (ad 6, .inl (cI, 12, .inl (S.2 0))), (ad 7, .inl (cI, 12, .inl (S.2 1))), (ad 8, .inl (cI, 20, .inl (S.2 2))), (ad 9, .inl (cI, 20, .inl (S.2 3))), (ad 10, .inl (cI, 20, .inl (S.2 4))), (ad 11, .inl (cI, 20, .inl (S.2 5))), (ad 12, .inl (cI, 10, .inl (S.2 6))), (ad 13, .inl (cI, 10, .inl (S.2 7))), (ad 14, .inl (cI, 10, .inl (S.2 8))), (ad 15, .inl (cI, 40, .inl (S.2 9))), (ad 16, .inl (cI, 40, .inl (S.2 10))), (ad 17, .inl (cI, 40, .inl (S.2 11))), (ad 18, .inl (cI, 40, .inl (S.2 12))), (ad 19, .inl (cI, 40, .inl (S.2 13))), (ad 20, .inl (cI, 40, .inl (S.2 14))), (ad 21, .inl (cZ, 40, .inl (S.2 15))), (ad 22, .inl (cI, 40, .inl (S.2 16))), (ad 23, .inl (cI, 10, .inl (S.2 17))), (ad 24, .inl (cI, 6, .inl (S.2 18))), (ad 25, .inl (cZ, 40, .inl (S.2 19)))]
def mA (ad : Nat → Nat) : Nat → Prop := fun q => ∃ k, k < 19 ∧ q = ad k
theorem mW_map (ad : Nat → Nat) (cI cZ : ClassId) (S : St) : (mW ad cI cZ S).map Prod.fst = (List.range 19).map ad := rfl
theorem mDD {ad : Nat → Nat} (h : ∀ i j, i < 19 → j < 19 → ad i = ad j → i = j) (cI cZ : ClassId) (S : St) : va_D (mA ad) (mW ad cI cZ S) := by
  have key : ∀ (k : Nat) (q : Nat × va_E), (mW ad cI cZ S)[k]? = some q → k < 19 ∧ q.1 = ad k := by
    intro k q hk
    have h1 : ((mW ad cI cZ S).map Prod.fst)[k]? = some q.1 := by rw [List.getElem?_map, hk]; rfl
    rw [mW_map, List.getElem?_map] at h1
    have h2 : k < 19 := by
      have h3 := (List.getElem?_eq_some_iff.mp hk).1
      exact h3
    rw [List.getElem?_range h2] at h1
    exact ⟨h2, (Option.some.inj h1).symm⟩
  refine ⟨fun i j x y hi hj hxy => ?_, fun k q hk => ?_⟩
  · obtain ⟨h1, h2⟩ := key i x hi
    obtain ⟨h3, h4⟩ := key j y hj
    exact h i j h1 h3 (by rw [← h2, ← h4, hxy])
  · obtain ⟨h1, h2⟩ := key k q hk
    exact ⟨k, h1, h2⟩
theorem mU0 (ad : Nat → Nat) (cI cZ : ClassId) (S : St) (i x : Int32) : (mW ad cI cZ S).set 1 (ad 1, .inl (cI, 12, .inl (upd (S.2 0) i.toNatClampNeg x))) = mW ad cI cZ (sA S 0 i x) := rfl
theorem mU1 (ad : Nat → Nat) (cI cZ : ClassId) (S : St) (i x : Int32) : (mW ad cI cZ S).set 2 (ad 2, .inl (cI, 20, .inl (upd (S.2 1) i.toNatClampNeg x))) = mW ad cI cZ (sA S 1 i x) := rfl
theorem mU2 (ad : Nat → Nat) (cI cZ : ClassId) (S : St) (i x : Int32) : (mW ad cI cZ S).set 3 (ad 3, .inl (cI, 20, .inl (upd (S.2 2) i.toNatClampNeg x))) = mW ad cI cZ (sA S 2 i x) := rfl
theorem mU3 (ad : Nat → Nat) (cI cZ : ClassId) (S : St) (i x : Int32) : (mW ad cI cZ S).set 4 (ad 4, .inl (cI, 20, .inl (upd (S.2 3) i.toNatClampNeg x))) = mW ad cI cZ (sA S 3 i x) := rfl
theorem mU4 (ad : Nat → Nat) (cI cZ : ClassId) (S : St) (i x : Int32) : (mW ad cI cZ S).set 5 (ad 5, .inl (cI, 20, .inl (upd (S.2 4) i.toNatClampNeg x))) = mW ad cI cZ (sA S 4 i x) := rfl
theorem mU5 (ad : Nat → Nat) (cI cZ : ClassId) (S : St) (i x : Int32) : (mW ad cI cZ S).set 6 (ad 6, .inl (cI, 6, .inl (upd (S.2 5) i.toNatClampNeg x))) = mW ad cI cZ (sA S 5 i x) := rfl
theorem mU6 (ad : Nat → Nat) (cI cZ : ClassId) (S : St) (i x : Int32) : (mW ad cI cZ S).set 7 (ad 7, .inl (cI, 10, .inl (upd (S.2 6) i.toNatClampNeg x))) = mW ad cI cZ (sA S 6 i x) := rfl
theorem mU7 (ad : Nat → Nat) (cI cZ : ClassId) (S : St) (i x : Int32) : (mW ad cI cZ S).set 8 (ad 8, .inl (cI, 10, .inl (upd (S.2 7) i.toNatClampNeg x))) = mW ad cI cZ (sA S 7 i x) := rfl
theorem mU8 (ad : Nat → Nat) (cI cZ : ClassId) (S : St) (i x : Int32) : (mW ad cI cZ S).set 9 (ad 9, .inl (cI, 10, .inl (upd (S.2 8) i.toNatClampNeg x))) = mW ad cI cZ (sA S 8 i x) := rfl
theorem mU9 (ad : Nat → Nat) (cI cZ : ClassId) (S : St) (i x : Int32) : (mW ad cI cZ S).set 10 (ad 10, .inl (cI, 40, .inl (upd (S.2 9) i.toNatClampNeg x))) = mW ad cI cZ (sA S 9 i x) := rfl
theorem mU10 (ad : Nat → Nat) (cI cZ : ClassId) (S : St) (i x : Int32) : (mW ad cI cZ S).set 11 (ad 11, .inl (cI, 40, .inl (upd (S.2 10) i.toNatClampNeg x))) = mW ad cI cZ (sA S 10 i x) := rfl
theorem mU11 (ad : Nat → Nat) (cI cZ : ClassId) (S : St) (i x : Int32) : (mW ad cI cZ S).set 12 (ad 12, .inl (cI, 40, .inl (upd (S.2 11) i.toNatClampNeg x))) = mW ad cI cZ (sA S 11 i x) := rfl
theorem mU12 (ad : Nat → Nat) (cI cZ : ClassId) (S : St) (i x : Int32) : (mW ad cI cZ S).set 13 (ad 13, .inl (cI, 40, .inl (upd (S.2 12) i.toNatClampNeg x))) = mW ad cI cZ (sA S 12 i x) := rfl
theorem mU13 (ad : Nat → Nat) (cI cZ : ClassId) (S : St) (i x : Int32) : (mW ad cI cZ S).set 14 (ad 14, .inl (cI, 40, .inl (upd (S.2 13) i.toNatClampNeg x))) = mW ad cI cZ (sA S 13 i x) := rfl
theorem mU14 (ad : Nat → Nat) (cI cZ : ClassId) (S : St) (i x : Int32) : (mW ad cI cZ S).set 15 (ad 15, .inl (cI, 40, .inl (upd (S.2 14) i.toNatClampNeg x))) = mW ad cI cZ (sA S 14 i x) := rfl
theorem mU15 (ad : Nat → Nat) (cI cZ : ClassId) (S : St) (i x : Int32) : (mW ad cI cZ S).set 16 (ad 16, .inl (cI, 40, .inl (upd (S.2 15) i.toNatClampNeg x))) = mW ad cI cZ (sA S 15 i x) := rfl
theorem mU16 (ad : Nat → Nat) (cI cZ : ClassId) (S : St) (i x : Int32) : (mW ad cI cZ S).set 17 (ad 17, .inl (cZ, 40, .inl (upd (S.2 16) i.toNatClampNeg x))) = mW ad cI cZ (sA S 16 i x) := rfl
theorem mU17 (ad : Nat → Nat) (cI cZ : ClassId) (S : St) (i x : Int32) : (mW ad cI cZ S).set 18 (ad 18, .inl (cI, 12, .inl (upd (S.2 17) i.toNatClampNeg x))) = mW ad cI cZ (sA S 17 i x) := rfl
def bA (ad : Nat → Nat) : Nat → Prop := fun q => ∃ k, k < 26 ∧ q = ad k
theorem bW_map (ad : Nat → Nat) (cI cZ : ClassId) (S : St) : (bW ad cI cZ S).map Prod.fst = (List.range 26).map ad := rfl
theorem bDD {ad : Nat → Nat} (h : ∀ i j, i < 26 → j < 26 → ad i = ad j → i = j) (cI cZ : ClassId) (S : St) : va_D (bA ad) (bW ad cI cZ S) := by
  have key : ∀ (k : Nat) (q : Nat × va_E), (bW ad cI cZ S)[k]? = some q → k < 26 ∧ q.1 = ad k := by
    intro k q hk
    have h1 : ((bW ad cI cZ S).map Prod.fst)[k]? = some q.1 := by rw [List.getElem?_map, hk]; rfl
    rw [bW_map, List.getElem?_map] at h1
    have h2 : k < 26 := by
      have h3 := (List.getElem?_eq_some_iff.mp hk).1
      exact h3
    rw [List.getElem?_range h2] at h1
    exact ⟨h2, (Option.some.inj h1).symm⟩
  refine ⟨fun i j x y hi hj hxy => ?_, fun k q hk => ?_⟩
  · obtain ⟨h1, h2⟩ := key i x hi
    obtain ⟨h3, h4⟩ := key j y hj
    exact h i j h1 h3 (by rw [← h2, ← h4, hxy])
  · obtain ⟨h1, h2⟩ := key k q hk
    exact ⟨k, h1, h2⟩
theorem bU0 (ad : Nat → Nat) (cI cZ : ClassId) (S : St) (i x : Int32) : (bW ad cI cZ S).set 6 (ad 6, .inl (cI, 12, .inl (upd (S.2 0) i.toNatClampNeg x))) = bW ad cI cZ (sA S 0 i x) := rfl
theorem bU1 (ad : Nat → Nat) (cI cZ : ClassId) (S : St) (i x : Int32) : (bW ad cI cZ S).set 7 (ad 7, .inl (cI, 12, .inl (upd (S.2 1) i.toNatClampNeg x))) = bW ad cI cZ (sA S 1 i x) := rfl
theorem bU2 (ad : Nat → Nat) (cI cZ : ClassId) (S : St) (i x : Int32) : (bW ad cI cZ S).set 8 (ad 8, .inl (cI, 20, .inl (upd (S.2 2) i.toNatClampNeg x))) = bW ad cI cZ (sA S 2 i x) := rfl
theorem bU3 (ad : Nat → Nat) (cI cZ : ClassId) (S : St) (i x : Int32) : (bW ad cI cZ S).set 9 (ad 9, .inl (cI, 20, .inl (upd (S.2 3) i.toNatClampNeg x))) = bW ad cI cZ (sA S 3 i x) := rfl
theorem bU4 (ad : Nat → Nat) (cI cZ : ClassId) (S : St) (i x : Int32) : (bW ad cI cZ S).set 10 (ad 10, .inl (cI, 20, .inl (upd (S.2 4) i.toNatClampNeg x))) = bW ad cI cZ (sA S 4 i x) := rfl
theorem bU5 (ad : Nat → Nat) (cI cZ : ClassId) (S : St) (i x : Int32) : (bW ad cI cZ S).set 11 (ad 11, .inl (cI, 20, .inl (upd (S.2 5) i.toNatClampNeg x))) = bW ad cI cZ (sA S 5 i x) := rfl
theorem bU6 (ad : Nat → Nat) (cI cZ : ClassId) (S : St) (i x : Int32) : (bW ad cI cZ S).set 12 (ad 12, .inl (cI, 10, .inl (upd (S.2 6) i.toNatClampNeg x))) = bW ad cI cZ (sA S 6 i x) := rfl
theorem bU7 (ad : Nat → Nat) (cI cZ : ClassId) (S : St) (i x : Int32) : (bW ad cI cZ S).set 13 (ad 13, .inl (cI, 10, .inl (upd (S.2 7) i.toNatClampNeg x))) = bW ad cI cZ (sA S 7 i x) := rfl
theorem bU8 (ad : Nat → Nat) (cI cZ : ClassId) (S : St) (i x : Int32) : (bW ad cI cZ S).set 14 (ad 14, .inl (cI, 10, .inl (upd (S.2 8) i.toNatClampNeg x))) = bW ad cI cZ (sA S 8 i x) := rfl
theorem bU9 (ad : Nat → Nat) (cI cZ : ClassId) (S : St) (i x : Int32) : (bW ad cI cZ S).set 15 (ad 15, .inl (cI, 40, .inl (upd (S.2 9) i.toNatClampNeg x))) = bW ad cI cZ (sA S 9 i x) := rfl
theorem bU10 (ad : Nat → Nat) (cI cZ : ClassId) (S : St) (i x : Int32) : (bW ad cI cZ S).set 16 (ad 16, .inl (cI, 40, .inl (upd (S.2 10) i.toNatClampNeg x))) = bW ad cI cZ (sA S 10 i x) := rfl
theorem bU11 (ad : Nat → Nat) (cI cZ : ClassId) (S : St) (i x : Int32) : (bW ad cI cZ S).set 17 (ad 17, .inl (cI, 40, .inl (upd (S.2 11) i.toNatClampNeg x))) = bW ad cI cZ (sA S 11 i x) := rfl
theorem bU12 (ad : Nat → Nat) (cI cZ : ClassId) (S : St) (i x : Int32) : (bW ad cI cZ S).set 18 (ad 18, .inl (cI, 40, .inl (upd (S.2 12) i.toNatClampNeg x))) = bW ad cI cZ (sA S 12 i x) := rfl
theorem bU13 (ad : Nat → Nat) (cI cZ : ClassId) (S : St) (i x : Int32) : (bW ad cI cZ S).set 19 (ad 19, .inl (cI, 40, .inl (upd (S.2 13) i.toNatClampNeg x))) = bW ad cI cZ (sA S 13 i x) := rfl
theorem bU14 (ad : Nat → Nat) (cI cZ : ClassId) (S : St) (i x : Int32) : (bW ad cI cZ S).set 20 (ad 20, .inl (cI, 40, .inl (upd (S.2 14) i.toNatClampNeg x))) = bW ad cI cZ (sA S 14 i x) := rfl
theorem bU15 (ad : Nat → Nat) (cI cZ : ClassId) (S : St) (i x : Int32) : (bW ad cI cZ S).set 21 (ad 21, .inl (cZ, 40, .inl (upd (S.2 15) i.toNatClampNeg x))) = bW ad cI cZ (sA S 15 i x) := rfl
theorem bU16 (ad : Nat → Nat) (cI cZ : ClassId) (S : St) (i x : Int32) : (bW ad cI cZ S).set 22 (ad 22, .inl (cI, 40, .inl (upd (S.2 16) i.toNatClampNeg x))) = bW ad cI cZ (sA S 16 i x) := rfl
theorem bU17 (ad : Nat → Nat) (cI cZ : ClassId) (S : St) (i x : Int32) : (bW ad cI cZ S).set 23 (ad 23, .inl (cI, 10, .inl (upd (S.2 17) i.toNatClampNeg x))) = bW ad cI cZ (sA S 17 i x) := rfl
theorem bU18 (ad : Nat → Nat) (cI cZ : ClassId) (S : St) (i x : Int32) : (bW ad cI cZ S).set 24 (ad 24, .inl (cI, 6, .inl (upd (S.2 18) i.toNatClampNeg x))) = bW ad cI cZ (sA S 18 i x) := rfl
theorem bU19 (ad : Nat → Nat) (cI cZ : ClassId) (S : St) (i x : Int32) : (bW ad cI cZ S).set 25 (ad 25, .inl (cZ, 40, .inl (upd (S.2 19) i.toNatClampNeg x))) = bW ad cI cZ (sA S 19 i x) := rfl
end
section
/-! methods that return or throw: the states, the rows -/
def xNm : Nat → String | 1 => "java/lang/IndexOutOfBoundsException" | 2 => "java/lang/IllegalArgumentException" | _ => "java/lang/IllegalStateException"
def xC : Nat → Nat | 0 => 0 | _ + 1 => 1
def xS : Nat → Nat | 0 => 0 | _ + 1 => 6
def xRm (fr lo k : Nat) : Room := { frames := fr, cells := xC k, slots := xS k, locals := lo }
def xStrs : List (Nat × String) := [(60, "no such version"), (70, "no more packages"), (81, "no such need"), (87, "the need does not hold now"), (92, "no more needs"), (101, "no such trust"), (106, "no such patience"), (111, "no such freeze"), (114, "no more freezes"), (119, "no such version or risk"), (121, "the version is not greater"), (130, "no more raises"), (145, "the raise has no reviewer"), (158, "the group cannot land"), (178, "no such number of days"), (180, "no more days"), (198, "nothing to tell"), (218, "no such sign"), (221, "no such package"), (223, "no such reviewer"), (225, "no such raise"), (227, "the raise is not open")]
def xNg : List Cond := [.declares (Bundle.initS "java/lang/RuntimeException"), .declares (Bundle.initS "java/lang/Exception"), .declares (Bundle.initS Bundle.tN), .castable "java/lang/IndexOutOfBoundsException" "java/lang/IndexOutOfBoundsException", .castable "java/lang/IllegalArgumentException" "java/lang/IllegalArgumentException", .castable "java/lang/IllegalStateException" "java/lang/IllegalStateException"]
theorem xNg_ok : ∀ w ∈ xNg, w.keepsFace = true ∧ w.onTables = true := by decide +kernel
theorem xNg_warm {s U : State} (hW : s.WarmedH U.vm) (h : ∀ w ∈ xNg, va_Nw w s) : ∀ w ∈ xNg, va_Nw w U := fun w hw => va_tabs (xNg_ok w hw).2 (rfl : (s.setVm U.vm).vm = U.vm) (Cond.before_shiftedFace (args := #[]) (State.Shifted.of_warmed hW) w (xNg_ok w hw).1 (h w hw))
def xFx (A : Nat → Prop) (U : State) : Prop := vx_Zq Bundle.tN "UNASSIGNED_STACK" Bundle.steD A U U.heap ∧ vx_Zq Bundle.tN "SUPPRESSED_SENTINEL" Bundle.listD A U U.heap ∧ (∀ q ∈ xStrs, ∃ sa, vk_R RX6 q.1 q.2 sa U) ∧ ∀ w ∈ xNg, va_Nw w U
def xPre (D : va_G) (cI cZ : ClassId) (A : Nat → Prop) (ws : va_W) (U : State) : Prop := kPre D cI cZ ws U ∧ xFx A U
def xQi (D : va_G) (cI cZ : ClassId) (A : Nat → Prop) (ws : va_W) (r : Int32) (k : Nat) : Array Value → State → Outcome → State → Prop := fun _ st oc t => k = 0 ∧ oc = .returned (some (.int r)) ∧ va_P D vwCl ws t.heap ∧ va_F A st t
def xQv (D : va_G) (cI cZ : ClassId) (A : Nat → Prop) (ws : va_W) (k : Nat) : Array Value → State → Outcome → State → Prop := fun _ st oc t => k = 0 ∧ oc = .returned none ∧ va_P D vwCl ws t.heap ∧ va_F A st t
def xXC (D : va_G) (cI cZ : ClassId) (A : Nat → Prop) (ws : va_W) (k : Nat) : String → State → State → Prop := fun E st t => k ≠ 0 ∧ E = xNm k ∧ va_P D vwCl ws t.heap ∧ va_F A st t
theorem xPre.blind {D : va_G} {cI cZ : ClassId} {A : Nat → Prop} {ws : va_W} {av : List Value} : FrameBlind (va_Pc av (xPre D cI cZ A ws)) := fun _ U g mk q => ⟨q.1, ⟨q.2.1.1, kK.warm (s := U) (State.WarmedH.refl U) q.2.1.2⟩, vx_Zq.moved (u := U) (Vm.Alike.refl U.vm) q.2.2.1, vx_Zq.moved (u := U) (Vm.Alike.refl U.vm) q.2.2.2.1, fun z hz => by obtain ⟨sa, h⟩ := q.2.2.2.2.1 z hz; exact ⟨sa, vk_R.same (u := U) rfl h⟩, xNg_warm (s := U) (State.WarmedH.refl U) q.2.2.2.2.2⟩
section XROW
variable {p : Program} {l : Launch} {e : Env} {R : Room} {s : State} {m : MethodId} {args : Array Value} {below : List Frame} {meth : Method} {c : Code} {H : Heap} {locs : List Loc} {cells slots : Nat} {Q : State → Prop}
variable {cc : ByteArray} {pc : Nat} {ls : Array Slot} {rest st0 : List Value} {D : va_G} {cI cZ : ClassId} {A : Nat → Prop} {a : Nat} {H0 : Heap} {Wd : St → va_W} {S : St}
theorem xPre.at {av : List Value} (hK : kK D cI cZ s) (hP : va_P D vwCl (Wd S) H) (hX : xFx A s) (hS : va_S A s.heap H locs) : ∀ U : State, U.heap = H → s.WarmedH U.vm → va_Pc av (xPre D cI cZ A (Wd S)) av.toArray U := fun U hU hW => ⟨rfl, ⟨by rw [hU]; exact hP, kK.warm hW hK⟩, by rw [hU]; exact vx_Zq.moved hW.alike (hX.1.kept hS.2.1), by rw [hU]; exact vx_Zq.moved hW.alike (hX.2.1.kept hS.2.1), fun z hz => by obtain ⟨sa, h⟩ := hX.2.2.1 z hz; exact ⟨sa, vk_R.warm hW h⟩, xNg_warm hW hX.2.2.2⟩
variable {y : MethodName} {bytes : ByteArray} {maxL nL n index : Nat} {ret : Option FieldType} {ws : List Cond} {rm : Room} {Ts : List Cond} {own C : String} {b : Addr} {As : List Value}
theorem r_callXi {F : Option (St × Int32 × Nat)} {f : St → Int32 → Option (St × Int32 × Nat)} {fr lo : Nat} {Qc : Array Value → State → Outcome → State → Prop} {So : St} {ro : Int32} {co : Nat} (As rest : List Value) (CF : CallFix p m c cc nL s args Ts own) (hM : ∀ S1 r k, F = some (S1, r, k) → vx_Met l y ws (xRm fr lo k) (va_Pc (.ref b :: As) (xPre D cI cZ A (Wd S))) (xQi D cI cZ A (Wd S1) r k) (xXC D cI cZ A (Wd S1) k) (xC k) (xS k) A) (cw : ∀ k, CallW R s args own C index y bytes maxL ret ws (xRm fr lo k) (xC k) (xS k) n) (hrc : ∃ cellB : Cell, H[b]? = some cellB ∧ cellB.vm.isStatics = false ∧ s.vm.findClass C = some cellB.cls) (hK : kK D cI cZ s) (hP : va_P D vwCl (Wd S) H) (hX : xFx A s) (hS : va_S A s.heap H locs) (hR : R.cells = xC co ∧ R.slots = xS co) (ht : ∀ x ∈ c.exceptionTable.toList, False) (hlk : meth.locks = false)
    (hn : As.length = n) (hsz : ls.size = nL) (hst : st0 = As.reverse ++ .ref b :: rest) (hW : (rest.map fun v => v.category).sum ≤ 8) (hE : F.bind (fun q => if q.2.2 = 0 then f q.1 q.2.1 else some (q.1, 0, q.2.2)) = some (So, ro, co)) (hdg : decode cc pc = .ok (.invokevirtual index, 3))
    (kk : ∀ (S1 : St) (r : Int32) H1 locs1, f S1 r = some (So, ro, co) → va_P D vwCl (Wd S1) H1 → va_S A s.heap H1 locs1 → W p l e R s m args below meth c H1 locs1 0 0 (vx_MQ below Qc (xXC D cI cZ A (Wd So) co) args s (xC co) (xS co) A) (F0 m (pc + 3) ls (.int r :: rest))) : W p l e R s m args below meth c H locs 0 0 (vx_MQ below Qc (xXC D cI cZ A (Wd So) co) args s (xC co) (xS co) A) (F0 m pc ls st0) := by
  obtain ⟨⟨S1, r, k⟩, h1, h2⟩ := obn hE
  by_cases hk : k = 0
  · subst hk
    have h2 : f S1 r = some (So, ro, co) := h2
    intro T hT X
    rcases vx_runV CF (hM S1 r 0 h1) (cw 0) ⟨xPre.blind, hrc, xPre.at hK hP hX hS⟩ rfl hn hsz hst (lv_room hW) hdg ⟨Nat.zero_le _, Nat.zero_le _⟩ T hT X with ⟨v, st₀, t, T', L, h0, X', hL, e1, e2, ⟨_, hv, hb, hz, hkp⟩, st⟩ | ⟨q, st₀, t, T', L, E, ce, h0, X', hL, e1, e2, ⟨hne, _⟩, _⟩
    · cases hv
      rw [h0] at hz hkp
      obtain ⟨t2, a1, b1⟩ := kk S1 r T'.heap (locs ++ L) h2 (by rw [e1]; exact hb)
        ⟨Nat.le_trans hS.1 (by rw [e1]; exact hz), fun q h1 h2 => by rw [e1, hkp q (Nat.lt_of_lt_of_le h1 hS.1) h2]; exact hS.2.1 q h1 h2, fun q hq => by
          rcases List.mem_append.mp hq with h | h
          · exact hS.2.2 q h
          · exact hL q h⟩ T' rfl X'
      exact ⟨t2, st t2 a1, b1⟩
    · exact absurd rfl hne
  · have h3 : some (S1, (0 : Int32), k) = some (So, ro, co) := by
      have h4 : (if k = 0 then f S1 r else some (S1, 0, k)) = some (So, ro, co) := h2
      rw [if_neg hk] at h4
      exact h4
    cases h3
    intro T hT X
    rcases vx_runV CF (hM So r co h1) (cw co) ⟨xPre.blind, hrc, xPre.at hK hP hX hS⟩ rfl hn hsz hst (lv_room hW) hdg ⟨by rw [hR.1, Nat.zero_add]; exact Nat.le_refl _, by rw [hR.2, Nat.zero_add]; exact Nat.le_refl _⟩ T hT X with ⟨v, st₀, t, T', L, h0, X', hL, e1, e2, ⟨he, _⟩, st⟩ | ⟨q, st₀, t, T', L, E, ce, h0, X', hL, e1, e2, ⟨_, hEn, hb, hz, hkp⟩, hce, hcv, hcl, st⟩
    · exact absurd he hk
    · rw [h0] at hz hkp
      have hSS : va_S A s.heap T'.heap (locs ++ L) := ⟨Nat.le_trans hS.1 (by rw [e1]; exact hz), fun q h1 h2 => by rw [e1, hkp q (Nat.lt_of_lt_of_le h1 hS.1) h2]; exact hS.2.1 q h1 h2, fun q hq => by
          rcases List.mem_append.mp hq with h | h
          · exact hS.2.2 q h
          · exact hL q h⟩
      obtain ⟨t2, a1, b1⟩ := vx_out (Qc := Qc) (XC := xXC D cI cZ A (Wd So) co) (pc := pc) (ls := ls) (rest := rest) (mc := xC co) (ms := xS co) (free := A) (fun x hx => (ht x hx).elim) hlk (by rw [e1]; exact hce) hcv hcl
        (fun t9 ht9 _ => ⟨hk, hEn, by rw [ht9, e1]; exact hb, hSS.F ht9⟩) hSS.2.2 (Nat.le_of_eq (Nat.zero_add _)) (Nat.le_of_eq (Nat.zero_add _)) T' rfl X'
      exact ⟨t2, st.trans a1, b1⟩
theorem r_callXv {F : Option (St × Int32 × Nat)} {f : St → Int32 → Option (St × Int32 × Nat)} {fr lo : Nat} {Qc : Array Value → State → Outcome → State → Prop} {So : St} {ro : Int32} {co : Nat} (As rest : List Value) (CF : CallFix p m c cc nL s args Ts own) (hM : ∀ S1 r k, F = some (S1, r, k) → vx_Met l y ws (xRm fr lo k) (va_Pc (.ref b :: As) (xPre D cI cZ A (Wd S))) (xQv D cI cZ A (Wd S1) k) (xXC D cI cZ A (Wd S1) k) (xC k) (xS k) A) (cw : ∀ k, CallW R s args own C index y bytes maxL ret ws (xRm fr lo k) (xC k) (xS k) n) (hrc : ∃ cellB : Cell, H[b]? = some cellB ∧ cellB.vm.isStatics = false ∧ s.vm.findClass C = some cellB.cls) (hK : kK D cI cZ s) (hP : va_P D vwCl (Wd S) H) (hX : xFx A s) (hS : va_S A s.heap H locs) (hR : R.cells = xC co ∧ R.slots = xS co) (ht : ∀ x ∈ c.exceptionTable.toList, False) (hlk : meth.locks = false)
    (hn : As.length = n) (hsz : ls.size = nL) (hst : st0 = As.reverse ++ .ref b :: rest) (hW : (rest.map fun v => v.category).sum ≤ 8) (hE : F.bind (fun q => if q.2.2 = 0 then f q.1 q.2.1 else some (q.1, 0, q.2.2)) = some (So, ro, co)) (hdg : decode cc pc = .ok (.invokevirtual index, 3))
    (kk : ∀ (S1 : St) (r : Int32) H1 locs1, f S1 r = some (So, ro, co) → va_P D vwCl (Wd S1) H1 → va_S A s.heap H1 locs1 → W p l e R s m args below meth c H1 locs1 0 0 (vx_MQ below Qc (xXC D cI cZ A (Wd So) co) args s (xC co) (xS co) A) (F0 m (pc + 3) ls rest)) : W p l e R s m args below meth c H locs 0 0 (vx_MQ below Qc (xXC D cI cZ A (Wd So) co) args s (xC co) (xS co) A) (F0 m pc ls st0) := by
  obtain ⟨⟨S1, r, k⟩, h1, h2⟩ := obn hE
  by_cases hk : k = 0
  · subst hk
    have h2 : f S1 r = some (So, ro, co) := h2
    intro T hT X
    rcases vx_runV CF (hM S1 r 0 h1) (cw 0) ⟨xPre.blind, hrc, xPre.at hK hP hX hS⟩ rfl hn hsz hst (lv_room hW) hdg ⟨Nat.zero_le _, Nat.zero_le _⟩ T hT X with ⟨v, st₀, t, T', L, h0, X', hL, e1, e2, ⟨_, hv, hb, hz, hkp⟩, st⟩ | ⟨q, st₀, t, T', L, E, ce, h0, X', hL, e1, e2, ⟨hne, _⟩, _⟩
    · cases hv
      rw [h0] at hz hkp
      obtain ⟨t2, a1, b1⟩ := kk S1 r T'.heap (locs ++ L) h2 (by rw [e1]; exact hb)
        ⟨Nat.le_trans hS.1 (by rw [e1]; exact hz), fun q h1 h2 => by rw [e1, hkp q (Nat.lt_of_lt_of_le h1 hS.1) h2]; exact hS.2.1 q h1 h2, fun q hq => by
          rcases List.mem_append.mp hq with h | h
          · exact hS.2.2 q h
          · exact hL q h⟩ T' rfl X'
      exact ⟨t2, st t2 a1, b1⟩
    · exact absurd rfl hne
  · have h3 : some (S1, (0 : Int32), k) = some (So, ro, co) := by
      have h4 : (if k = 0 then f S1 r else some (S1, 0, k)) = some (So, ro, co) := h2
      rw [if_neg hk] at h4
      exact h4
    cases h3
    intro T hT X
    rcases vx_runV CF (hM So r co h1) (cw co) ⟨xPre.blind, hrc, xPre.at hK hP hX hS⟩ rfl hn hsz hst (lv_room hW) hdg ⟨by rw [hR.1, Nat.zero_add]; exact Nat.le_refl _, by rw [hR.2, Nat.zero_add]; exact Nat.le_refl _⟩ T hT X with ⟨v, st₀, t, T', L, h0, X', hL, e1, e2, ⟨he, _⟩, st⟩ | ⟨q, st₀, t, T', L, E, ce, h0, X', hL, e1, e2, ⟨_, hEn, hb, hz, hkp⟩, hce, hcv, hcl, st⟩
    · exact absurd he hk
    · rw [h0] at hz hkp
      have hSS : va_S A s.heap T'.heap (locs ++ L) := ⟨Nat.le_trans hS.1 (by rw [e1]; exact hz), fun q h1 h2 => by rw [e1, hkp q (Nat.lt_of_lt_of_le h1 hS.1) h2]; exact hS.2.1 q h1 h2, fun q hq => by
          rcases List.mem_append.mp hq with h | h
          · exact hS.2.2 q h
          · exact hL q h⟩
      obtain ⟨t2, a1, b1⟩ := vx_out (Qc := Qc) (XC := xXC D cI cZ A (Wd So) co) (pc := pc) (ls := ls) (rest := rest) (mc := xC co) (ms := xS co) (free := A) (fun x hx => (ht x hx).elim) hlk (by rw [e1]; exact hce) hcv hcl
        (fun t9 ht9 _ => ⟨hk, hEn, by rw [ht9, e1]; exact hb, hSS.F ht9⟩) hSS.2.2 (Nat.le_of_eq (Nat.zero_add _)) (Nat.le_of_eq (Nat.zero_add _)) T' rfl X'
      exact ⟨t2, st.trans a1, b1⟩
theorem kx_iret {v ro : Int32} {So : St} {co : Nat} {XC : String → State → State → Prop} (hx : p.tables.exec = Jvm.exec) (hb : c.code = cc) (hr : meth.sig.returnType = some .int) (hlk : meth.locks = false) (hK : kK D cI cZ s) (hP : va_P D vwCl (Wd S) H) (hS : va_S A s.heap H locs) (hE : some (S, v, 0) = some (So, ro, co)) (hdg : decode cc pc = .ok (.ireturn, 1)) : W p l e R s m args below meth c H locs 0 0 (vx_MQ below (xQi D cI cZ A (Wd So) ro co) XC args s (xC co) (xS co) A) (F0 m pc ls [.int v]) := by
  cases hE
  exact vx_ret (W.iret hx hb hr (fun t ht hW => ⟨rfl, rfl, by rw [ht]; exact hP, hS.F ht⟩) hS.2.2 hdg hlk)
theorem kx_zret {v ro : Int32} {So : St} {co : Nat} {ty : FieldType} {XC : String → State → State → Prop} (hx : p.tables.exec = Jvm.exec) (hb : c.code = cc) (hr : meth.sig.returnType = some ty) (hlk : meth.locks = false) (hn : narrow ty (.int v) = .int v) (hK : kK D cI cZ s) (hP : va_P D vwCl (Wd S) H) (hS : va_S A s.heap H locs) (hE : some (S, v, 0) = some (So, ro, co)) (hdg : decode cc pc = .ok (.ireturn, 1)) : W p l e R s m args below meth c H locs 0 0 (vx_MQ below (xQi D cI cZ A (Wd So) ro co) XC args s (xC co) (xS co) A) (F0 m pc ls [.int v]) := by
  cases hE
  exact vx_ret (W.zret hx hb hr hn (fun t ht hW => ⟨rfl, rfl, by rw [ht]; exact hP, hS.F ht⟩) hS.2.2 hdg hlk)
theorem kx_bret {v ro : Int32} {So : St} {co : Nat} {XC : String → State → State → Prop} (hx : p.tables.exec = Jvm.exec) (hb : c.code = cc) (hr : meth.sig.returnType = some .boolean) (hlk : meth.locks = false) (hK : kK D cI cZ s) (hP : va_P D vwCl (Wd S) H) (hS : va_S A s.heap H locs) (hE : (bzI v).bind (fun w => some (S, w, 0)) = some (So, ro, co)) (hdg : decode cc pc = .ok (.ireturn, 1)) : W p l e R s m args below meth c H locs 0 0 (vx_MQ below (xQi D cI cZ A (Wd So) ro co) XC args s (xC co) (xS co) A) (F0 m pc ls [.int v]) := by
  obtain ⟨w, h1, h2⟩ := obn hE
  obtain ⟨h3, h4⟩ := bzI_some h1
  subst h3
  exact kx_zret hx hb hr hlk h4 hK hP hS h2 hdg
theorem kx_vret {ro : Int32} {So : St} {co : Nat} {XC : String → State → State → Prop} (hx : p.tables.exec = Jvm.exec) (hb : c.code = cc) (hr : meth.sig.returnType = none) (hlk : meth.locks = false) (hK : kK D cI cZ s) (hP : va_P D vwCl (Wd S) H) (hS : va_S A s.heap H locs) (hE : some (S, (0 : Int32), 0) = some (So, ro, co)) (hdg : decode cc pc = .ok (.return_, 1)) : W p l e R s m args below meth c H locs 0 0 (vx_MQ below (xQv D cI cZ A (Wd So) co) XC args s (xC co) (xS co) A) (F0 m pc ls []) := by
  cases hE
  exact vx_ret (W.vret hx hb hr (fun t ht hW => ⟨rfl, rfl, by rw [ht]; exact hP, hS.F ht⟩) hS.2.2 hdg hlk)
/-- 'throw new E(text)' of the class: the world stays -/
theorem kx_throw {own text : String} {names : List String} {ik is ic : Nat} {code : Nat} {ro : Int32} {So : St} {co : Nat} {Qc : Array Value → State → Outcome → State → Prop} (hx : p.tables.exec = Jvm.exec) (hb : c.code = cc) (hst : l.stackTraces = false) (hown : s.vm.findClass own = some m.cls) (hown6 : own = RX6) (hcls : Bundle.fit (xNm (code + 1)) = true) (hnames : ∀ n ∈ names, Bundle.fit n = true)
    (hk : (Cond.classLink own ik (xNm (code + 1))).before args s = true) (hini : (Cond.initialized (xNm (code + 1))).before args s = true) (hmem : (is, text) ∈ xStrs) (hat : ∀ w ∈ vx_atS own ic (xNm (code + 1)) names, w.before args s = true)
    (hgood : ∀ w ∈ Cond.classLink own ik (xNm (code + 1)) :: Cond.initialized (xNm (code + 1)) :: vx_atS own ic (xNm (code + 1)) names, vx_ot w = true)
    (hK : kK D cI cZ s) (hP : va_P D vwCl (Wd S) H) (hX : xFx A s) (hS : va_S A s.heap H locs) (hsize : ls.size = c.maxLocals) (ht : ∀ x ∈ c.exceptionTable.toList, False) (hlk : meth.locks = false)
    (hRf : names.length + 3 < R.frames) (hRl : (rest.map fun v => v.category).sum + (13 * (names.length + 1) + 43) ≤ R.locals) (hR : R.cells = xC co ∧ R.slots = xS co) (hE : some (S, (0 : Int32), code + 1) = some (So, ro, co))
    (d0 : decode cc pc = .ok (.new ik, 3)) (d3 : decode cc (pc + 3) = .ok (.dup, 1)) (d4 : decode cc (pc + 4) = .ok (.ldc is, 2)) (d6 : decode cc (pc + 6) = .ok (.invokespecial ic, 3)) (d9 : decode cc (pc + 9) = .ok (.athrow, 1)) :
    W p l e R s m args below meth c H locs 0 0 (vx_MQ below Qc (xXC D cI cZ A (Wd So) co) args s (xC co) (xS co) A) (F0 m pc ls rest) := by
  cases hE
  obtain ⟨sa, hstr⟩ := hX.2.2.1 _ hmem
  refine vx_throwS (cls := xNm (code + 1)) (text := text) (sa := sa) hx hb hst hown hcls hnames hk hini (by rw [hown6]; exact hstr) hat hgood hX.1 hX.2.1 hS hsize d0 d3 d4 d6 d9 (fun x hx => (ht x hx).elim) hRf hRl (by rw [hR.1]; exact Nat.le_refl _) (by rw [hR.2]; exact Nat.le_refl _) hlk ?_ hS.2.2 (Nat.le_refl _) (Nat.le_refl _)
  intro t _ hsz hkp
  exact ⟨Nat.succ_ne_zero _, rfl, hP.kept (fun k q hk => hkp q.1 (hP k q hk).lt), Nat.le_trans hS.1 hsz, fun q h1 h2 => (hkp q (Nat.lt_of_lt_of_le h1 hS.1)).trans (hS.2.1 q h1 h2)⟩
end XROW
theorem xMet_of {l : Launch} {D : va_G} {cI cZ : ClassId} {A : Nat → Prop} {y : MethodName} {ws ws' : List Cond} {rm : Room} {cc : ByteArray} {maxL mc ms : Nat} {ret : Option FieldType} {av : List Value} {ww : va_W} {Qc : Array Value → State → Outcome → State → Prop} {XC : String → State → State → Prop} (hy : plainName y.cls = true) (hw : ws = Cond.code y cc maxL ret :: ws') (hav : (lg_sl av).length ≤ maxL)
    (body : ∀ p e (s : State) m args below (meth : Method) (c : Code) (ls : Array Slot), p.tables.exec = Jvm.exec → c.code = cc → meth.sig.returnType = ret → c.maxLocals = maxL → s.vm.findClass y.cls = some m.cls → meth.locks = false → (∀ w ∈ ws, w.before args s = true) → (∀ x ∈ c.exceptionTable.toList, False) → kK D cI cZ s → va_P D vwCl ww s.heap → xFx A s → va_S A s.heap s.heap [] → lv_has ls maxL (lv_args 0 av) →
      W p l e (headSpec ws rm).room s m args below meth c s.heap [] 0 0 (vx_MQ below Qc XC args s mc ms A) (F0 m 0 ls [])) : vx_Met l y ws rm (va_Pc av (xPre D cI cZ A ww)) Qc XC mc ms A := by
  refine vx_ofW hy hw ?_
  intro p e s m args below meth c s₁ B hml htab hv
  obtain ⟨rfl, ⟨hP, hK⟩, hX⟩ := hv
  rw [lg_entry_eq]
  exact body p e s m _ below meth c _ B.exec B.bytes B.returns hml (findClass_of_methodNamed B.named) B.notSynchronized (atoms_spec B.pre) htab hK hP hX va_S.rf (lv_entry av hav)
theorem xgood1 : ∀ w ∈ Cond.classLink RX6 216 "java/lang/IndexOutOfBoundsException" :: Cond.initialized "java/lang/IndexOutOfBoundsException" :: vx_atS RX6 220 "java/lang/IndexOutOfBoundsException" ["java/lang/RuntimeException", "java/lang/Exception"], vx_ot w = true := by decide +kernel
theorem xng1 : ∀ w ∈ (vx_atS RX6 220 "java/lang/IndexOutOfBoundsException" ["java/lang/RuntimeException", "java/lang/Exception"]).filter (fun w => !goodWord w), w ∈ xNg := by decide +kernel
theorem xgood2 : ∀ w ∈ Cond.classLink RX6 58 "java/lang/IllegalArgumentException" :: Cond.initialized "java/lang/IllegalArgumentException" :: vx_atS RX6 62 "java/lang/IllegalArgumentException" ["java/lang/RuntimeException", "java/lang/Exception"], vx_ot w = true := by decide +kernel
theorem xng2 : ∀ w ∈ (vx_atS RX6 62 "java/lang/IllegalArgumentException" ["java/lang/RuntimeException", "java/lang/Exception"]).filter (fun w => !goodWord w), w ∈ xNg := by decide +kernel
theorem xgood3 : ∀ w ∈ Cond.classLink RX6 68 "java/lang/IllegalStateException" :: Cond.initialized "java/lang/IllegalStateException" :: vx_atS RX6 72 "java/lang/IllegalStateException" ["java/lang/RuntimeException", "java/lang/Exception"], vx_ot w = true := by decide +kernel
theorem xng3 : ∀ w ∈ (vx_atS RX6 72 "java/lang/IllegalStateException" ["java/lang/RuntimeException", "java/lang/Exception"]).filter (fun w => !goodWord w), w ∈ xNg := by decide +kernel
end
